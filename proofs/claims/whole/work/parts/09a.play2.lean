section PlayTwo
variable {S : Nat → Nat → Bool} {keys : Nat → Int64} {is : Nat → Int32} {sd s k o : Nat}
def KAll (keys : Nat → Int64) (T : Nat → Nat → Bool) : Prop := ∀ g, g < 4 → Bits (keys g) (q50 (T g))
theorem KAll_of {keys' : Nat → Int64} {T : Nat → Nat → Bool} (h : ∀ g, g < 4 → (∀ j, j < 50 → bx (keys' g) j = T g j) ∧ ∀ j, 50 ≤ j → j < 64 → bx (keys' g) j = false) : KAll keys' T := fun g hg j hj => by
  obtain ⟨h1, h2⟩ := h g hg
  unfold q50
  by_cases c : j < 50
  · rw [h1 j c, decide_eq_true c]; rfl
  · rw [h2 j (by omega) hj, decide_eq_false c]; rfl
theorem one_bits (h : SetR S keys is) (hs : s < 4) {T : Nat → Nat → Bool} {x : Int64} (hx : ∀ j, j < 50 → bx x j = T s j) (hz : ∀ j, 50 ≤ j → j < 64 → bx x j = false) (hT : ∀ g j, g < 4 → j < 50 → g ≠ s → T g j = S g j) : KAll (vp_updL keys s x) T :=
  KAll_of (fun g hg => by
    by_cases c : g = s
    · subst c; rw [updL_s]; exact ⟨hx, hz⟩
    · rw [updL_n _ _ c]; exact ⟨fun j hj => by rw [bx_key h hg hj, hT g j hg hj c], q50_hi (h g hg).1⟩)
theorem two_bits (h : SetR S keys is) (hs : s < 4) (ho : o < 4) (hso : s ≠ o) {T : Nat → Nat → Bool} {x y : Int64} (hx : ∀ j, j < 50 → bx x j = T s j) (hz : ∀ j, 50 ≤ j → j < 64 → bx x j = false) (hy : ∀ j, j < 50 → bx y j = T o j) (hz' : ∀ j, 50 ≤ j → j < 64 → bx y j = false) (hT : ∀ g j, g < 4 → j < 50 → g ≠ s → g ≠ o → T g j = S g j) : KAll (vp_updL (vp_updL keys s x) o y) T :=
  KAll_of (fun g hg => by
    by_cases c : g = o
    · subst c; rw [updL_s]; exact ⟨hy, hz'⟩
    · rw [updL_n _ _ c]
      by_cases c2 : g = s
      · subst c2; rw [updL_s]; exact ⟨hx, hz⟩
      · rw [updL_n _ _ c2]; exact ⟨fun j hj => by rw [bx_key h hg hj, hT g j hg hj c2 c], q50_hi (h g hg).1⟩)
theorem cplay_eq (h : SetR S keys is) (m : Nat) (hm : m < 8) (hs : s < 4) (hk : k < 50) (ho : o < 4) (hA : Allowed S sd m s k o) : ∃ keys', f_X6_play keys (nI sd) (nI (kc m)) (nI s) (nI k) (nI o) = some (keys', nI (if m = 7 then sd + 1 else sd)) ∧ KAll keys' (nx S m s k o) := by
  obtain ⟨-, -, -, hso, hem, -⟩ := hA
  have z1 := q50_hi (h s hs).1
  have z2 := q50_hi (h o ho).1
  have f4 : (4 : Nat) < 2 ^ 31 := by decide
  unfold f_X6_play
  simp only [aget_nI hs f4, aget_nI ho f4, Option.bind_some, asetL_nI hs f4, asetL_nI ho f4, bit_eq, less_eq]
  rcases (show m = 0 ∨ m = 1 ∨ m = 2 ∨ m = 3 ∨ m = 4 ∨ m = 5 ∨ m = 6 ∨ m = 7 by omega) with rfl | rfl | rfl | rfl | rfl | rfl | rfl | rfl
  · simp only [kq0_38, kq0_43, if_true, if_false]
    refine ⟨_, rfl, one_bits h hs (fun j hj => ?_) (fun j a b => ?_) (fun g j hg hj c => ?_)⟩
    · rw [(put_bits _ hk).1 j (by omega), bx_key h hs hj]
      show _ = (if s = s ∧ j = k then true else S s j)
      by_cases c : j = k
      · rw [if_pos c, if_pos ⟨rfl, c⟩]
      · rw [if_neg c, if_neg (fun q => c q.2)]
    · rw [(put_bits _ hk).1 j b, if_neg (by omega)]; exact z1 j a b
    · show (if g = s ∧ j = k then true else S g j) = S g j
      rw [if_neg (fun q => c q.1)]
  · simp only [kq1_38, kq1_43, kq1_45, if_true, if_false]
    refine ⟨_, rfl, one_bits h hs (fun j hj => ?_) (fun j a b => ?_) (fun g j hg hj c => ?_)⟩
    · rw [(put_bits _ hk).2 j (by omega), bx_key h hs hj]
      show _ = (if s = s ∧ j = k then false else S s j)
      by_cases c : j = k
      · rw [if_pos c, if_pos ⟨rfl, c⟩]
      · rw [if_neg c, if_neg (fun q => c q.2)]
    · rw [(put_bits _ hk).2 j b, if_neg (by omega)]; exact z1 j a b
    · show (if g = s ∧ j = k then false else S g j) = S g j
      rw [if_neg (fun q => c q.1)]
  · simp only [kq2_38, kq2_43, kq2_45, kq2_47, if_true, if_false]
    have hso' := hso (by omega) (by omega)
    refine ⟨_, rfl, two_bits h hs ho hso' (fun j hj => ?_) (fun j a b => ?_) (fun j hj => ?_) (fun j a b => ?_) (fun g j hg hj c d => ?_)⟩
    · rw [bx_and, bx_key h hs hj, bx_less (by omega) (by omega)]
      show _ = (if s = s then S s j && decide (j < k) else _)
      rw [if_pos rfl]
    · rw [bx_and, z1 j a b]; rfl
    · rw [bx_and, bx_key h hs hj, bx_not _ (by omega), bx_less (by omega) (by omega)]
      show _ = (if o = s then S s j && decide (j < k) else if o = o then S s j && !decide (j < k) else S o j)
      rw [if_neg (fun q => hso' q.symm), if_pos rfl]
    · rw [bx_and, z1 j a b]; rfl
    · show (if g = s then S s j && decide (j < k) else if g = o then S s j && !decide (j < k) else S g j) = S g j
      rw [if_neg c, if_neg d]
  · simp only [kq3_38, if_true]
    have hso' := hso (by omega) (by omega)
    refine ⟨_, rfl, two_bits h hs ho hso' (fun j hj => ?_) (fun j a b => ?_) (fun j hj => ?_) (fun j a b => ?_) (fun g j hg hj c d => ?_)⟩
    · rw [bx_or, bx_key h hs hj, bx_key h ho hj]
      show _ = (if s = s then (S s j || S o j) else if s = o ∧ 3 = 3 then false else S s j)
      rw [if_pos rfl]
    · rw [bx_or, z1 j a b, z2 j a b]; rfl
    · rw [bx_0]
      show false = (if o = s then (S s j || S o j) else if o = o ∧ 3 = 3 then false else S o j)
      rw [if_neg (fun q => hso' q.symm), if_pos ⟨rfl, rfl⟩]
    · exact bx_0 j
    · show (if g = s then (S s j || S o j) else if g = o ∧ 3 = 3 then false else S g j) = S g j
      rw [if_neg c, if_neg (fun q => d q.1)]
  · simp only [kq4_38, kq4_43, kq4_45, kq4_47, kq4_61, if_true, if_false]
    refine ⟨_, rfl, one_bits h hs (fun j hj => ?_) (fun j a b => z2 j a b) (fun g j hg hj c => ?_)⟩
    · rw [bx_key h ho hj]
      show _ = (if s = s then S o j else if s = o ∧ 4 = 3 then false else S s j)
      rw [if_pos rfl]
    · show (if g = s then S o j else if g = o ∧ 4 = 3 then false else S g j) = S g j
      rw [if_neg c, if_neg (fun q => absurd q.2 (by decide))]
  · simp only [kq5_38, kq5_43, kq5_45, kq5_47, kq5_61, kq5_124, if_true, if_false]
    refine ⟨_, rfl, one_bits h hs (fun j hj => ?_) (fun j a b => ?_) (fun g j hg hj c => ?_)⟩
    · rw [bx_or, bx_key h hs hj, bx_key h ho hj]
      show _ = (if s = s then (S s j || S o j) else if s = o ∧ 5 = 3 then false else S s j)
      rw [if_pos rfl]
    · rw [bx_or, z1 j a b, z2 j a b]; rfl
    · show (if g = s then (S s j || S o j) else if g = o ∧ 5 = 3 then false else S g j) = S g j
      rw [if_neg c, if_neg (fun q => absurd q.2 (by decide))]
  · simp only [kq6_38, kq6_43, kq6_45, kq6_47, kq6_61, kq6_124, kq6_126, if_true, if_false]
    refine ⟨_, rfl, one_bits h hs (fun j hj => ?_) (fun j a b => ?_) (fun g j hg hj c => ?_)⟩
    · rw [bx_and, bx_not _ (by omega), bx_key h hs hj, bx_key h ho hj]
      show _ = (if s = s then (S s j && !S o j) else if s = o ∧ 6 = 3 then false else S s j)
      rw [if_pos rfl]
    · rw [bx_and, z1 j a b]; rfl
    · show (if g = s then (S s j && !S o j) else if g = o ∧ 6 = 3 then false else S g j) = S g j
      rw [if_neg c, if_neg (fun q => absurd q.2 (by decide))]
  · simp only [kq7_38, kq7_43, kq7_45, kq7_47, kq7_61, kq7_124, kq7_126, if_false]
    rw [nI_one]
    exact ⟨keys, rfl, fun g hg => (h g hg).1⟩
theorem nx_cnt (h : ∀ g, g < 4 → cnt (S g) 50 ≤ 40) (m : Nat) (hm : m < 8) (hs : s < 4) (hk : k < 50) (ho : o < 4) (hA : Allowed S sd m s k o) : ∀ g, g < 4 → cnt (nx S m s k o g) 50 ≤ 40 := by
  intro g hg
  obtain ⟨-, h0, -, hso, hem, hb⟩ := hA
  have hgc := h g hg
  rcases (show m = 0 ∨ m = 1 ∨ m = 2 ∨ m = 3 ∨ m = 4 ∨ m = 5 ∨ m = 6 ∨ m = 7 by omega) with rfl | rfl | rfl | rfl | rfl | rfl | rfl | rfl
  · obtain ⟨c1, c2⟩ := h0 rfl
    have en : ∀ j, nx S 0 s k o g j = (if g = s ∧ j = k then true else S g j) := fun j => rfl
    by_cases c : g = s
    · subst c
      rw [cnt_add 50 k hk (q := S g) (fun j _ hj => by rw [en, if_neg (fun q => hj q.2)]) c2 (by rw [en, if_pos ⟨rfl, rfl⟩])]
      omega
    · rw [cnt_congr (r := S g) 50 (fun j _ => by rw [en, if_neg (fun q => c q.1)])]; exact hgc
  · refine Nat.le_trans (cnt_mono (r := S g) 50 (fun j hj q => ?_)) hgc
    have en : nx S 1 s k o g j = (if g = s ∧ j = k then false else S g j) := rfl
    rw [en] at q
    by_cases c : g = s ∧ j = k
    · rw [if_pos c] at q; exact absurd q (by decide)
    · rwa [if_neg c] at q
  · have en : ∀ j, nx S 2 s k o g j = (if g = s then S s j && decide (j < k) else if g = o then S s j && !decide (j < k) else S g j) := fun j => rfl
    by_cases c : g = s
    · subst c
      refine Nat.le_trans (cnt_mono (r := S g) 50 (fun j hj q => ?_)) hgc
      rw [en, if_pos rfl] at q
      cases hz : S g j
      · rw [hz, Bool.false_and] at q; exact absurd q (by decide)
      · rfl
    · by_cases c2 : g = o
      · refine Nat.le_trans (cnt_mono (r := S s) 50 (fun j hj q => ?_)) (h s hs)
        rw [en, if_neg c, if_pos c2] at q
        cases hz : S s j
        · rw [hz, Bool.false_and] at q; exact absurd q (by decide)
        · rfl
      · rw [cnt_congr (r := S g) 50 (fun j _ => by rw [en, if_neg c, if_neg c2])]; exact hgc
  · have en : ∀ j, nx S 3 s k o g j = (if g = s then (S s j || S o j) else if g = o ∧ 3 = 3 then false else S g j) := fun j => rfl
    by_cases c : g = s
    · rw [cnt_congr (r := fun j => S s j || S o j) 50 (fun j _ => by rw [en, if_pos c])]; exact hb (Or.inl rfl)
    · refine Nat.le_trans (cnt_mono (r := S g) 50 (fun j hj q => ?_)) hgc
      rw [en, if_neg c] at q
      by_cases c2 : g = o ∧ 3 = 3
      · rw [if_pos c2] at q; exact absurd q (by decide)
      · rwa [if_neg c2] at q
  · have en : ∀ j, nx S 4 s k o g j = (if g = s then S o j else if g = o ∧ 4 = 3 then false else S g j) := fun j => rfl
    by_cases c : g = s
    · rw [cnt_congr (r := S o) 50 (fun j _ => by rw [en, if_pos c])]; exact h o ho
    · rw [cnt_congr (r := S g) 50 (fun j _ => by rw [en, if_neg c, if_neg (fun q => absurd q.2 (by decide))])]; exact hgc
  · have en : ∀ j, nx S 5 s k o g j = (if g = s then (S s j || S o j) else if g = o ∧ 5 = 3 then false else S g j) := fun j => rfl
    by_cases c : g = s
    · rw [cnt_congr (r := fun j => S s j || S o j) 50 (fun j _ => by rw [en, if_pos c])]; exact hb (Or.inr rfl)
    · rw [cnt_congr (r := S g) 50 (fun j _ => by rw [en, if_neg c, if_neg (fun q => absurd q.2 (by decide))])]; exact hgc
  · have en : ∀ j, nx S 6 s k o g j = (if g = s then (S s j && !S o j) else if g = o ∧ 6 = 3 then false else S g j) := fun j => rfl
    refine Nat.le_trans (cnt_mono (r := S g) 50 (fun j hj q => ?_)) hgc
    rw [en] at q
    by_cases c : g = s
    · rw [if_pos c] at q; rw [c]
      cases hz : S s j
      · rw [hz, Bool.false_and] at q; exact absurd q (by decide)
      · rfl
    · rwa [if_neg c, if_neg (fun q => absurd q.2 (by decide))] at q
  · exact hgc
/-- an act that is allowed: both go on alike -/
theorem act_eq (h : SetR S keys is) (hsd : sd < 10000) (m : Nat) (hm : m < 8) (hs : s < 4) (hk : k < 50) (ho : o < 4) (hA : Allowed S sd m s k o) : ∃ keys' is' sd', sd' < 10000 ∧ f_X6_play keys (nI sd) (nI (kc m)) (nI s) (nI k) (nI o) = some (keys', nI sd') ∧ f_X8_happen (nI sd) is (nI m) (nI s) (nI k) (nI o) = some (nI sd', is') ∧ SetR (nx S m s k o) keys' is' := by
  obtain ⟨keys', e1, h1⟩ := cplay_eq h m hm hs hk ho hA
  obtain ⟨is', e2, h2⟩ := happen_eq h m hm hs hk ho hA
  have h3 := nx_cnt (fun g hg => (h g hg).2.2) m hm hs hk ho hA
  refine ⟨keys', is', _, ?_, e1, e2, fun g hg => ⟨h1 g hg, h2 g hg, h3 g hg⟩⟩
  by_cases c : m = 7
  · have := hA.1 c; rw [if_pos c]; omega
  · rw [if_neg c]; exact hsd
end PlayTwo
