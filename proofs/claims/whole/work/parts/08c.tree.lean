/-! bits of a long -/
def bx (x : Int64) (k : Nat) : Bool := x.toBitVec.getLsbD k
def Bits (x : Int64) (q : Nat → Bool) : Prop := ∀ k, k < 64 → bx x k = q k
theorem Bits_un {x y : Int64} {q : Nat → Bool} (h1 : Bits x q) (h2 : Bits y q) : x = y := by
  apply Int64.toBitVec_inj.mp
  apply BitVec.eq_of_getLsbD_eq
  intro i hi
  exact (h1 i hi).trans (h2 i hi).symm
theorem bx_or (x y : Int64) (k : Nat) : bx (x ||| y) k = (bx x k || bx y k) := by unfold bx; rw [Int64.toBitVec_or, BitVec.getLsbD_or]
theorem bx_and (x y : Int64) (k : Nat) : bx (x &&& y) k = (bx x k && bx y k) := by unfold bx; rw [Int64.toBitVec_and, BitVec.getLsbD_and]
theorem bx_xor (x y : Int64) (k : Nat) : bx (x ^^^ y) k = (bx x k ^^ bx y k) := by unfold bx; rw [Int64.toBitVec_xor, BitVec.getLsbD_xor]
theorem bx_0 (k : Nat) : bx 0 k = false := by unfold bx; simp
theorem bx_m1 : ∀ k, k < 64 → bx (-1) k = true := by decide +kernel
theorem bx_not (x : Int64) {k : Nat} (h : k < 64) : bx (x ^^^ (-1)) k = !bx x k := by rw [bx_xor, bx_m1 k h]; cases bx x k <;> rfl
def bitv (j : Nat) : Int64 := (1 : Int64) <<< ((nI j).toInt64 &&& 63)
theorem bit_eq (j : Nat) : f_X7_bit (nI j) = some (bitv j) := rfl
theorem bx_bit {j k : Nat} (hj : j < 64) (hk : k < 64) : bx (bitv j) k = decide (k = j) := by
  have h : ∀ j, j < 64 → ∀ k, k < 64 → bx (bitv j) k = decide (k = j) := by decide +kernel
  exact h j hj k hk
theorem bx_less {j k : Nat} (hj : j < 64) (hk : k < 64) : bx (bitv j - 1) k = decide (k < j) := by
  have h : ∀ j, j < 64 → ∀ k, k < 64 → bx (bitv j - 1) k = decide (k < j) := by decide +kernel
  exact h j hj k hk
theorem less_eq (j : Nat) : f_X7_less (nI j) = some (bitv j - 1) := rfl
theorem zero_bits {x : Int64} : (x = 0) = (∀ k, k < 64 → bx x k = false) := by
  apply propext
  constructor
  · intro e k _; rw [e, bx_0]
  · intro h; exact Bits_un (q := fun _ => false) h (fun k _ => bx_0 k)
theorem isIn_eq (x : Int64) {j : Nat} (hj : j < 64) : f_X7_isIn x (nI j) = some (b01 (bx x j)) := by
  unfold f_X7_isIn
  rw [bit_eq, Option.bind_some]
  have e : (lg_cmp (x &&& bitv j) 0 = 0) = (bx x j = false) := by
    rw [lg_eq, zero_bits]
    apply propext
    constructor
    · intro h
      have := h j hj
      rw [bx_and, bx_bit hj hj] at this
      simpa using this
    · intro h k hk
      rw [bx_and, bx_bit hj hk]
      by_cases z : k = j
      · rw [z, h]; rfl
      · simp [z]
  simp only [e]
  unfold b01
  cases bx x j <;> rfl
/-- the keys of p from a up to b -/
def rs (p : Nat → Bool) (a b : Nat) : Nat → Bool := fun k => decide (a ≤ k) && decide (k < b) && p k
theorem rs_t {p : Nat → Bool} {a b k : Nat} (h1 : a ≤ k) (h2 : k < b) : rs p a b k = p k := by simp [rs, h1, h2]
theorem rs_f {p : Nat → Bool} {a b k : Nat} (h : k < a ∨ b ≤ k) : rs p a b k = false := by
  unfold rs
  rcases h with h | h
  · simp [Nat.not_le.mpr h]
  · simp [Nat.not_lt.mpr h]
theorem rs_no {p : Nat → Bool} {a b : Nat} (h : NoK p a b) (k : Nat) : rs p a b k = false := by
  by_cases h1 : a ≤ k ∧ k < b
  · rw [rs_t h1.1 h1.2, h k h1.1 h1.2]
  · exact rs_f (by omega)
section Tree
variable {s : Nat} {p : Nat → Bool}
/-- what the rows hold of key j, whose tree is [a, b) -/
def Fin_ (s : Nat) (p : Nat → Bool) (left right : Nat → Int32) (span : Nat → Int64) (dig hei : Nat → Int32) (j a b : Nat) : Prop :=
  RV s p a j (left j) ∧ RV s p (j + 1) b (right j) ∧ Bits (span j) (rs p a b) ∧ dig j = nI (dg s p a b) ∧ hei j = nI (ht s p a b)
def Done (s : Nat) (p : Nat → Bool) (left right parent : Nat → Int32) (span : Nat → Int64) (dig hei : Nat → Int32) (lo hi : Nat) : Prop :=
  ∀ j, lo ≤ j → j < hi → p j = true → ∃ a b, Seg s p lo hi j a b ∧ Fin_ s p left right span dig hei j a b ∧ ((a = lo ∧ b = hi) ∨ ∃ q, Par s lo hi a b q ∧ parent j = nI q)
theorem Done.none {left right parent : Nat → Int32} {span : Nat → Int64} {dig hei : Nat → Int32} {lo hi : Nat} (h : NoK p lo hi) : Done s p left right parent span dig hei lo hi := fun j h1 h2 h3 => absurd h3 (by rw [h j h1 h2]; decide)
/-- rows that agree on the part -/
theorem Done.same {left right parent left' right' parent' : Nat → Int32} {span span' : Nat → Int64} {dig hei dig' hei' : Nat → Int32} {lo hi : Nat} (h : Done s p left right parent span dig hei lo hi)
    (e : ∀ j, lo ≤ j → j < hi → left' j = left j ∧ right' j = right j ∧ parent' j = parent j ∧ span' j = span j ∧ dig' j = dig j ∧ hei' j = hei j) : Done s p left' right' parent' span' dig' hei' lo hi := by
  intro j h1 h2 h3
  obtain ⟨a, b, g, ⟨f1, f2, f3, f4, f5⟩, q⟩ := h j h1 h2 h3
  obtain ⟨e1, e2, e3, e4, e5, e6⟩ := e j h1 h2
  refine ⟨a, b, g, ⟨by rw [e1]; exact f1, by rw [e2]; exact f2, by rw [e4]; exact f3, by rw [e5]; exact f4, by rw [e6]; exact f5⟩, ?_⟩
  rcases q with q | ⟨q, q1, q2⟩
  · exact Or.inl q
  · exact Or.inr ⟨q, q1, by rw [e3]; exact q2⟩
theorem Done.at {left right parent : Nat → Int32} {span : Nat → Int64} {dig hei : Nat → Int32} {lo hi r : Nat} (h : Done s p left right parent span dig hei lo hi) (hr : IsR s p lo hi r) : Fin_ s p left right span dig hei r lo hi := by
  obtain ⟨a, b, g, f, -⟩ := h r hr.1 hr.2.1 hr.2.2.1
  have t := Seg_top hr
  rw [La_un g.2.1 t.2.1, Rb_un g.2.2 t.2.2] at f
  exact f
theorem neg6 : (-6 : Int32) < 0 := by decide
theorem child_span {left right parent : Nat → Int32} {span : Nat → Int64} {dig hei : Nat → Int32} {lo hi : Nat} {e : Int32} (hh : hi ≤ 50) (h : Done s p left right parent span dig hei lo hi) (hv : RV s p lo hi e) :
    (∃ x, f_X4_spanBelow span e = some x ∧ Bits x (rs p lo hi)) ∧ f_X4_digestBelow dig e = some (nI (dg s p lo hi)) ∧ f_X4_heightBelow hei e = some (nI (ht s p lo hi)) := by
  rcases hv with ⟨hn, rfl⟩ | ⟨r, hr, rfl⟩
  · rw [dg_no hn, ht_no hn]
    exact ⟨⟨0, rfl, fun k _ => by rw [bx_0, rs_no hn]⟩, rfl, rfl⟩
  · have h50 : r < 50 := by have := hr.2.1; omega
    obtain ⟨f1, f2, f3, f4, f5⟩ := h.at hr
    have hneg : ¬ nI r < (0 : Int32) := nI_pos (by omega)
    refine ⟨⟨span r, ?_, f3⟩, ?_, ?_⟩
    · unfold f_X4_spanBelow
      rw [if_neg hneg, aget_nI h50 (by decide)]
      rfl
    · unfold f_X4_digestBelow
      rw [if_neg hneg, aget_nI h50 (by decide), f4]
      rfl
    · unfold f_X4_heightBelow
      rw [if_neg hneg, aget_nI h50 (by decide), f5]
      rfl
theorem upd_s (f : Nat → Int32) (k : Nat) (x : Int32) : upd f k x k = x := by simp [upd]
theorem upd_n (f : Nat → Int32) {k j : Nat} (x : Int32) (h : j ≠ k) : upd f k x j = f j := by simp [upd, h]
theorem updL_s (f : Nat → Int64) (k : Nat) (x : Int64) : vp_updL f k x k = x := by simp [vp_updL]
theorem updL_n (f : Nat → Int64) {k j : Nat} (x : Int64) (h : j ≠ k) : vp_updL f k x j = f j := by simp [vp_updL, h]
/-- the parents of a root's two children -/
theorem fin_parent {parent : Nat → Int32} {lo hi t : Nat} {v1 v2 : Int32} (ht : t < 50) (hh : hi ≤ 50) (hr : IsR s p lo hi t) (h1 : RV s p lo t v1) (h2 : RV s p (t + 1) hi v2) {α : Type} (k : (Nat → Int32) → α) :
    ∃ parent', (if v1 < (0 : Int32) then
      if v2 < (0 : Int32) then some (k parent) else Option.bind (aset 50 parent v2 (nI t)) (fun f => some (k f))
    else Option.bind (aset 50 parent v1 (nI t)) (fun f => if v2 < (0 : Int32) then some (k f) else Option.bind (aset 50 f v2 (nI t)) (fun f => some (k f)))) = some (k parent') ∧
    (∀ j, IsR s p lo t j → parent' j = nI t) ∧ (∀ j, IsR s p (t + 1) hi j → parent' j = nI t) ∧ (∀ j, ¬ IsR s p lo t j → ¬ IsR s p (t + 1) hi j → parent' j = parent j) := by
  rcases h1 with ⟨n1, rfl⟩ | ⟨r1, i1, rfl⟩ <;> rcases h2 with ⟨n2, rfl⟩ | ⟨r2, i2, rfl⟩
  · exact ⟨parent, by rw [if_pos neg6, if_pos neg6], fun j q => absurd q (fun q => root_no n1 q), fun j q => absurd q (fun q => root_no n2 q), fun j _ _ => rfl⟩
  · have hb : r2 < 50 := by have := i2.2.1; omega
    refine ⟨upd parent r2 (nI t), ?_, fun j q => absurd q (fun q => root_no n1 q), fun j q => by rw [root_un q i2, upd_s], fun j _ q => upd_n _ _ (fun z => q (by rw [z]; exact i2))⟩
    rw [if_pos neg6, if_neg (nI_pos (by omega)), aset_nI hb (by decide)]; rfl
  · have hb : r1 < 50 := by have := i1.2.1; omega
    refine ⟨upd parent r1 (nI t), ?_, fun j q => by rw [root_un q i1, upd_s], fun j q => absurd q (fun q => root_no n2 q), fun j q _ => upd_n _ _ (fun z => q (by rw [z]; exact i1))⟩
    rw [if_neg (nI_pos (by omega)), aset_nI hb (by decide), Option.bind_some, if_pos neg6]
  · have hb1 : r1 < 50 := by have := i1.2.1; omega
    have hb2 : r2 < 50 := by have := i2.2.1; omega
    have hne : r1 ≠ r2 := by have := i1.2.1; have := i2.1; omega
    refine ⟨upd (upd parent r1 (nI t)) r2 (nI t), ?_, fun j q => by rw [root_un q i1, upd_n _ _ hne, upd_s], fun j q => by rw [root_un q i2, upd_s], fun j q1 q2 => by rw [upd_n _ _ (fun z => q2 (by rw [z]; exact i2)), upd_n _ _ (fun z => q1 (by rw [z]; exact i1))]⟩
    rw [if_neg (nI_pos (by omega)), aset_nI hb1 (by decide), Option.bind_some, if_neg (nI_pos (by omega)), aset_nI hb2 (by decide), Option.bind_some]
theorem finish_eq {left right parent : Nat → Int32} {span : Nat → Int64} {dig hei : Nat → Int32} {lo hi t : Nat} (hh : hi ≤ 50) (hr : IsR s p lo hi t) (h1 : RV s p lo t (left t)) (h2 : RV s p (t + 1) hi (right t))
    (D1 : Done s p left right parent span dig hei lo t) (D2 : Done s p left right parent span dig hei (t + 1) hi) :
    ∃ (parent' : Nat → Int32) (span' : Nat → Int64) (dig' hei' : Nat → Int32), f_X4_finish left right parent span dig hei (nI t) = some (parent', span', dig', hei') ∧ Done s p left right parent' span' dig' hei' lo hi ∧
      (∀ j, j < lo ∨ hi ≤ j → parent' j = parent j ∧ span' j = span j ∧ dig' j = dig j ∧ hei' j = hei j) ∧ (∀ j, p j = false → span' j = span j) := by
  have hl := hr.1
  have hu := hr.2.1
  have ht50 : t < 50 := by omega
  obtain ⟨⟨x4, e4, b4⟩, d4, t4⟩ := child_span (by omega) D1 h1
  obtain ⟨⟨x5, e5, b5⟩, d5, t5⟩ := child_span hh D2 h2
  have q1 := dg_lt s p lo t
  have q2 := dg_lt s p (t + 1) hi
  have q3 := ht_lt s p (t - lo) lo t (by omega)
  have q4 := ht_lt s p (hi - (t + 1)) (t + 1) hi (by omega)
  have eh : (1 : Int32) + (if nI (ht s p lo t) < nI (ht s p (t + 1) hi) then nI (ht s p (t + 1) hi) else nI (ht s p lo t)) = nI (ht s p lo hi) := by
    rw [ht_root hr]
    simp only [nI_lt' (show ht s p lo t < 2 ^ 31 by omega) (show ht s p (t + 1) hi < 2 ^ 31 by omega)]
    by_cases c : ht s p lo t < ht s p (t + 1) hi
    · rw [if_pos c, Nat.max_eq_right (by omega), lit32 1, nI_add]
    · rw [if_neg c, Nat.max_eq_left (by omega), lit32 1, nI_add]
  have ed : (31 : Int32) * nI (dg s p lo t) + (57 : Int32) * nI (dg s p (t + 1) hi) + (7919 : Int32) * (nI t + (1 : Int32)) = nI (31 * dg s p lo t + 57 * dg s p (t + 1) hi + 7919 * (t + 1)) := by
    rw [lit32 31, lit32 57, lit32 7919, lit32 1, nI_add, pk_mul, pk_mul, pk_mul, nI_add, nI_add]
  obtain ⟨parent', ep, pl, pr, po⟩ := fin_parent (parent := parent) ht50 hh hr h1 h2 (fun f => (f, vp_updL span t (bitv t ||| x4 ||| x5), upd dig t (nI (dg s p lo hi)), upd hei t (nI (ht s p lo hi))))
  refine ⟨parent', vp_updL span t (bitv t ||| x4 ||| x5), upd dig t (nI (dg s p lo hi)), upd hei t (nI (ht s p lo hi)), ?_, ?_, ?_, ?_⟩
  · unfold f_X4_finish
    rw [aget_nI ht50 (by decide), Option.bind_some, aget_nI ht50 (by decide), Option.bind_some, bit_eq, Option.bind_some, e4, Option.bind_some, e5, Option.bind_some, asetL_nI ht50 (by decide), Option.bind_some, t4, Option.bind_some, t5, Option.bind_some, eh, aset_nI ht50 (by decide), Option.bind_some, d4, Option.bind_some, d5, Option.bind_some, ed, lit32 999983, rem32 (by omega) (by decide) (by decide), lit32 1, nI_add, ← dg_root hr, aset_nI ht50 (by decide), Option.bind_some]
    exact ep
  · intro j a1 a2 a3
    by_cases z : j = t
    · subst z
      refine ⟨lo, hi, Seg_top hr, ⟨h1, h2, ?_, upd_s _ _ _, upd_s _ _ _⟩, Or.inl ⟨rfl, rfl⟩⟩
      rw [updL_s]
      intro k hk
      rw [bx_or, bx_or, bx_bit (by omega) hk, b4 k hk, b5 k hk]
      by_cases c : k = j
      · subst c; rw [rs_t (a := lo) (b := hi) a1 a2, a3]; simp
      · rcases Nat.lt_or_gt_of_ne c with c2 | c2
        · rw [rs_f (a := j + 1) (b := hi) (by omega)]
          by_cases c3 : lo ≤ k
          · rw [rs_t c3 c2, rs_t c3 (by omega)]; simp [c]
          · rw [rs_f (by omega), rs_f (by omega)]; simp [c]
        · rw [rs_f (a := lo) (b := j) (by omega)]
          by_cases c3 : k < hi
          · rw [rs_t (by omega) c3, rs_t (by omega) c3]; simp [c]
          · rw [rs_f (by omega), rs_f (by omega)]; simp [c]
    · rcases Nat.lt_or_gt_of_ne z with c | c
      · obtain ⟨a, b, g, ⟨f1, f2, f3, f4, f5⟩, q⟩ := D1 j a1 c a3
        refine ⟨a, b, Seg_left hr c g, ⟨f1, f2, by rw [updL_n _ _ z]; exact f3, by rw [upd_n _ _ z]; exact f4, by rw [upd_n _ _ z]; exact f5⟩, Or.inr ?_⟩
        by_cases w : IsR s p lo t j
        · have ea := La_un g.2.1 (Seg_top w).2.1
          have eb := Rb_un g.2.2 (Seg_top w).2.2
          exact ⟨t, Or.inl ⟨ea, by omega, eb.symm⟩, pl j w⟩
        · rcases q with ⟨q1, q2⟩ | ⟨q, q1, q2⟩
          · subst q1; subst q2; exact absurd g.root w
          · exact ⟨q, Par_left hr g q1, by rw [po j w (fun y => by have := y.1; omega)]; exact q2⟩
      · obtain ⟨a, b, g, ⟨f1, f2, f3, f4, f5⟩, q⟩ := D2 j (by omega) a2 a3
        refine ⟨a, b, Seg_right hr c g, ⟨f1, f2, by rw [updL_n _ _ z]; exact f3, by rw [upd_n _ _ z]; exact f4, by rw [upd_n _ _ z]; exact f5⟩, Or.inr ?_⟩
        by_cases w : IsR s p (t + 1) hi j
        · have ea := La_un g.2.1 (Seg_top w).2.1
          have eb := Rb_un g.2.2 (Seg_top w).2.2
          exact ⟨t, Or.inr (Or.inl ⟨by omega, eb, by omega⟩), pr j w⟩
        · rcases q with ⟨q1, q2⟩ | ⟨q, q1, q2⟩
          · subst q1; subst q2; exact absurd g.root w
          · exact ⟨q, Par_right hr g q1, by rw [po j (fun y => by have := y.2.1; omega) w]; exact q2⟩
  · intro j hj
    have z : j ≠ t := by omega
    exact ⟨po j (fun y => by have := y.1; have := y.2.1; omega) (fun y => by have := y.1; have := y.2.1; omega), updL_n _ _ z, upd_n _ _ z, upd_n _ _ z⟩
  · intro j hj
    exact updL_n _ _ (fun z => by rw [z, hr.2.2.1] at hj; exact absurd hj (by decide))
end Tree
