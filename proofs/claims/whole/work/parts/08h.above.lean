section Above
variable {s : Nat} {p : Nat → Bool} {is : Nat → Int32} {g : Nat}
theorem aboveOf_eq (hM : MR is g p) (hg : g < 4) (hs : s < 10000) {k : Nat} (hk : k < 50) : ∃ a b, La s p 0 k a ∧ Rb s p 50 k b ∧ ((a = 0 ∧ b = 50 ∧ f_X8_aboveOf (nI s) is (nI g) (nI k) = some (-6)) ∨ ∃ q, Par s 0 50 a b q ∧ f_X8_aboveOf (nI s) is (nI g) (nI k) = some (nI q)) := by
  obtain ⟨a, ea, ha⟩ := below_eq hM hg hs (j := k) (lo := 0) hk (by omega)
  obtain ⟨b, eb, hb⟩ := beyond_eq hM hg hs (j := k) (hi := 50) hk (by omega)
  refine ⟨a, b, ha, hb, ?_⟩
  have a2 := ha.2.1
  have b1 := hb.1
  have b2 := hb.2.1
  have ea' : f_X8_below (nI s) is (nI g) (nI k) (0 : Int32) = some (im a) := ea
  have eb' : f_X8_beyond (nI s) is (nI g) (nI k) (49 : Int32) = some (nI b) := eb
  unfold f_X8_aboveOf
  rw [ea', Option.bind_some, eb', Option.bind_some]
  cases a with
  | zero =>
    rw [if_neg (by decide)]
    by_cases c : b = 50
    · subst c; exact Or.inl ⟨rfl, rfl, by rw [if_pos (by decide)]⟩
    · exact Or.inr ⟨b, Or.inl ⟨rfl, by omega, rfl⟩, by rw [lit32 50, if_neg (nI_ge (by omega) (by omega))]⟩
  | succ a =>
    right
    rw [im_s, if_pos (nI_pos' (by omega))]
    by_cases c : b = 50
    · subst c; exact ⟨a, Or.inr (Or.inl ⟨by omega, rfl, by omega⟩), by rw [if_pos (show nI 50 = 50 from rfl)]⟩
    · have hne : ¬ nI b = (50 : Int32) := fun h => c ((nI_eq (by omega) (by decide)).mp h)
      rw [if_neg hne, mranks2_eq hs (by omega) (by omega), Option.bind_some]
      cases hr : rkB s b a
      · have : rk s a b := (rk_tot (by omega)).resolve_right (fun w => by rw [rkB_iff.mpr w] at hr; exact absurd hr (by decide))
        exact ⟨b, Or.inr (Or.inr ⟨by omega, by omega, Or.inl ⟨this, rfl⟩⟩), by rw [if_pos (show b01 false = 0 from rfl)]⟩
      · exact ⟨a, Or.inr (Or.inr ⟨by omega, by omega, Or.inr ⟨rkB_iff.mp hr, by omega⟩⟩), by rw [if_neg (show ¬ b01 true = 0 by decide)]⟩
/-- j is above k, or k itself -/
def Anc (s : Nat) (p : Nat → Bool) (j k : Nat) : Prop := p j = true ∧ ∀ i, (j ≤ i ∧ i ≤ k) ∨ (k ≤ i ∧ i ≤ j) → p i = true → i ≠ j → rk s j i
theorem Seg_anc {j k a b : Nat} (h : Seg s p 0 50 j a b) (hk : k < 50) (hp : p k = true) : (a ≤ k ∧ k < b) ↔ Anc s p j k := by
  have hR := h.root
  obtain ⟨h0, ⟨a1, a2, a3, a4⟩, ⟨b1, b2, b3, b4⟩⟩ := h
  constructor
  · intro ⟨k1, k2⟩
    exact ⟨h0, fun i hi q1 q2 => hR.2.2.2 i (by omega) (by omega) q1 q2⟩
  · intro ⟨_, q⟩
    constructor
    · by_cases c : a ≤ k
      · exact c
      · rcases a4 with w | ⟨w1, w2, w3⟩
        · omega
        · exact absurd w3 (rk_as (q (a - 1) (Or.inr (by omega)) w2 (by omega)))
    · by_cases c : k < b
      · exact c
      · rcases b4 with w | ⟨w1, w2, w3⟩
        · omega
        · exact absurd w3 (rk_as (q b (Or.inl (by omega)) w2 (by omega)))
/-- above k: the one just above, and what is above that -/
theorem Anc_par {k a b q j : Nat} (h : Seg s p 0 50 k a b) (hq : Par s 0 50 a b q) (hj50 : j < 50) (hj : p j = true) : p q = true ∧ rk s q k ∧ q < 50 ∧ q ≠ k ∧ ((j ≠ k ∧ Anc s p j k) ↔ (j = q ∨ (j ≠ q ∧ Anc s p j q))) := by
  have hR := h.root
  obtain ⟨h0, ⟨a1, a2, a3, a4⟩, ⟨b1, b2, b3, b4⟩⟩ := h
  have inn : ∀ i, a ≤ i → i < b → p i = true → i = k ∨ rk s k i := fun i i1 i2 i3 => by
    by_cases z : i = k
    · exact Or.inl z
    · exact Or.inr (hR.2.2.2 i i1 i2 i3 z)
  -- q to the right: k is left below it; q to the left: k is right below it
  have cases2 : (q = b ∧ b < 50 ∧ (0 < a → rk s (a - 1) q)) ∨ (q = a - 1 ∧ 0 < a ∧ (b < 50 → rk s b q)) := by
    rcases hq with ⟨e1, e2, e3⟩ | ⟨e1, e2, e3⟩ | ⟨e1, e2, ⟨e3, e4⟩ | ⟨e3, e4⟩⟩
    · exact Or.inl ⟨e3, e2, fun h => absurd h (by omega)⟩
    · exact Or.inr ⟨e3, e1, fun h => absurd h (by omega)⟩
    · exact Or.inl ⟨e4, e2, fun _ => by rw [e4]; exact e3⟩
    · exact Or.inr ⟨e4, e1, fun _ => by rw [e4]; exact e3⟩
  rcases cases2 with ⟨rfl, hb50, hla⟩ | ⟨eq, ha0, hrb⟩
  · have hqb : p q = true ∧ rk s q k := by
      rcases b4 with w | ⟨w1, w2, w3⟩
      · omega
      · exact ⟨w2, w3⟩
    have below : ∀ i, a ≤ i → i < q → p i = true → rk s q i := fun i i1 i2 i3 => by
      rcases inn i i1 i2 i3 with z | z
      · rw [z]; exact hqb.2
      · exact rk_tr hqb.2 z
    refine ⟨hqb.1, hqb.2, hb50, by omega, ?_⟩
    constructor
    · intro ⟨hjk, hA⟩
      by_cases hjq : j = q
      · exact Or.inl hjq
      · refine Or.inr ⟨hjq, hj, fun i hi i1 i2 => ?_⟩
        have hnot : ¬ (a ≤ j ∧ j < q) := fun w => by
          rcases inn j w.1 w.2 hj with z | z
          · exact hjk z
          · exact absurd z (rk_as (hA.2 k (by omega) h0 (Ne.symm hjk)))
        by_cases hjlt : q < j
        · exact hA.2 i (Or.inr (by omega)) i1 i2
        · have hja : j < a := by omega
          have hjk2 : rk s j k := hA.2 k (by omega) h0 (Ne.symm hjk)
          have hjq2 : rk s j q := by
            have hl := hla (by omega)
            by_cases w : j = a - 1
            · rw [w]; exact hl
            · rcases a4 with w2 | ⟨w1, w2, w3⟩
              · omega
              · exact rk_tr (hA.2 (a - 1) (Or.inl (by omega)) w2 (by omega)) hl
          by_cases w : i ≤ k
          · exact hA.2 i (Or.inl (by omega)) i1 i2
          · by_cases w2 : i = q
            · rw [w2]; exact hjq2
            · exact rk_tr hjq2 (below i (by omega) (by omega) i1)
    · intro hor
      rcases hor with rfl | ⟨hjq, hA⟩
      · refine ⟨by omega, hqb.1, fun i hi i1 i2 => below i (by omega) (by omega) i1⟩
      · have hjq2 : rk s j q := hA.2 q (by omega) hqb.1 (Ne.symm hjq)
        have hnot : ¬ (a ≤ j ∧ j < q) := fun w => absurd hjq2 (rk_as (below j w.1 w.2 hj))
        refine ⟨fun z => hnot (by omega), hj, fun i hi i1 i2 => ?_⟩
        by_cases w : a ≤ i ∧ i < q
        · exact rk_tr hjq2 (below i w.1 w.2 i1)
        · exact hA.2 i (by omega) i1 i2
  · subst eq
    have hqb : p (a - 1) = true ∧ rk s (a - 1) k := by
      rcases a4 with w | ⟨w1, w2, w3⟩
      · omega
      · exact ⟨w2, w3⟩
    have below : ∀ i, a ≤ i → i < b → p i = true → rk s (a - 1) i := fun i i1 i2 i3 => by
      rcases inn i i1 i2 i3 with z | z
      · rw [z]; exact hqb.2
      · exact rk_tr hqb.2 z
    refine ⟨hqb.1, hqb.2, by omega, by omega, ?_⟩
    constructor
    · intro ⟨hjk, hA⟩
      by_cases hjq : j = a - 1
      · exact Or.inl hjq
      · refine Or.inr ⟨hjq, hj, fun i hi i1 i2 => ?_⟩
        have hnot : ¬ (a ≤ j ∧ j < b) := fun w => by
          rcases inn j w.1 w.2 hj with z | z
          · exact hjk z
          · exact absurd z (rk_as (hA.2 k (by omega) h0 (Ne.symm hjk)))
        by_cases hjlt : j < a - 1
        · exact hA.2 i (Or.inl (by omega)) i1 i2
        · have hja : b ≤ j := by omega
          have hjq2 : rk s j (a - 1) := by
            rcases b4 with w2 | ⟨w1, w2, w3⟩
            · omega
            · have hl := hrb w1
              by_cases w : j = b
              · rw [w]; exact hl
              · exact rk_tr (hA.2 b (Or.inr (by omega)) w2 (by omega)) hl
          by_cases w : k ≤ i
          · exact hA.2 i (Or.inr (by omega)) i1 i2
          · by_cases w2 : i = a - 1
            · rw [w2]; exact hjq2
            · exact rk_tr hjq2 (below i (by omega) (by omega) i1)
    · intro hor
      rcases hor with rfl | ⟨hjq, hA⟩
      · refine ⟨by omega, hqb.1, fun i hi i1 i2 => below i (by omega) (by omega) i1⟩
      · have hjq2 : rk s j (a - 1) := hA.2 (a - 1) (by omega) hqb.1 (Ne.symm hjq)
        have hnot : ¬ (a ≤ j ∧ j < b) := fun w => absurd hjq2 (rk_as (below j w.1 w.2 hj))
        refine ⟨fun z => hnot (by omega), hj, fun i hi i1 i2 => ?_⟩
        by_cases w : a ≤ i ∧ i < b
        · exact rk_tr hjq2 (below i w.1 w.2 i1)
        · exact hA.2 i (by omega) i1 i2
end Above
