section Grow2
variable {s : Nat} {p : Nat → Bool}
theorem IsR_no {lo k r : Nat} (h : IsR s p lo k r) (hp : p k = false) : IsR s p lo (k + 1) r := ⟨h.1, by have := h.2.1; omega, h.2.2.1, fun j h1 h2 h3 h4 => h.2.2.2 j h1 (by
  by_cases z : j = k
  · rw [z, hp] at h3; exact absurd h3 (by decide)
  · omega) h3 h4⟩
theorem IsR_rk {lo k r : Nat} (h : IsR s p lo k r) (hr : rk s r k) : IsR s p lo (k + 1) r := ⟨h.1, by have := h.2.1; omega, h.2.2.1, fun j h1 h2 h3 h4 => by
  by_cases z : j = k
  · rw [z]; exact hr
  · exact h.2.2.2 j h1 (by omega) h3 h4⟩
theorem NoK_no {lo k : Nat} (h : NoK p lo k) (hp : p k = false) : NoK p lo (k + 1) := fun j h1 h2 => by
  by_cases z : j = k
  · rw [z]; exact hp
  · exact h j h1 (by omega)
theorem RV_no {lo k : Nat} {e : Int32} (h : RV s p lo k e) (hp : p k = false) : RV s p lo (k + 1) e := by
  rcases h with ⟨h, e⟩ | ⟨r, h, e⟩
  · exact Or.inl ⟨NoK_no h hp, e⟩
  · exact Or.inr ⟨r, IsR_no h hp, e⟩
theorem Bs_up {O : Nat → Nat} {m k i : Nat} (h : i ≤ m) : Bs (fun i => if i = m then k else O i) i = Bs O i := by
  cases i with
  | zero => rfl
  | succ i => show (if i = m then k else O i) + 1 = O i + 1; rw [if_neg (by omega)]
theorem grow_loop {prio : Nat → Int32} (hpr : Priced s prio) {keys : Int64} (hb : ∀ j, j < 50 → bx keys j = p j) : ∀ (n k m : Nat) (left right parent : Nat → Int32) (span : Nat → Int64) (dig hei opn : Nat → Int32) (O : Nat → Nat), k ≤ 50 → 51 ≤ k + n → Stk s p left right parent span dig hei opn O k m → NoK p (Bs O m) k → (∀ j, j < k → p j = false → span j = 0) →
    ∃ (m' : Nat) (left' right' parent' : Nat → Int32) (span' : Nat → Int64) (dig' hei' opn' : Nat → Int32) (O' : Nat → Nat), L_X4_grow_11 n left right parent span dig hei prio opn keys (nI m) (nI k) = some (nI m', left', right', parent', span', dig', hei', opn') ∧ Stk s p left' right' parent' span' dig' hei' opn' O' 50 m' ∧ NoK p (Bs O' m') 50 ∧ (∀ j, j < 50 → p j = false → span' j = 0) := by
  intro n
  induction n with
  | zero => intro k m left right parent span dig hei opn O h1 h2; omega
  | succ n ih =>
    intro k m left right parent span dig hei opn O hk hkn hS hN hz
    rw [L_X4_grow_11]
    by_cases c : k = 50
    · subst c
      exact ⟨m, left, right, parent, span, dig, hei, opn, O, by rw [if_pos (by decide)], hS, hN, hz⟩
    · have hk50 : k < 50 := by omega
      have hmk := hS.m
      rw [lit32 50, if_neg (nI_ge (by omega) (by omega)), asetL_nI hk50 (by decide), Option.bind_some, isIn_eq _ (by omega), Option.bind_some, hb k hk50]
      have hsame : ∀ j, j < k → vp_updL span k 0 j = span j := fun j hj => updL_n _ _ (by omega)
      by_cases hp : p k = true
      · have hb1 : b01 (p k) = 1 := by rw [hp]; rfl
        rw [hb1, if_neg (by decide), aset_nI hk50 (by decide), Option.bind_some, aset_nI hk50 (by decide), Option.bind_some]
        have hl : ∀ j, j < k → upd left k (-6) j = left j := fun j hj => upd_n _ _ (by omega)
        have hr : ∀ j, j < k → upd right k (-6) j = right j := fun j hj => upd_n _ _ (by omega)
        have hS1 : Stk s p (upd left k (-6)) (upd right k (-6)) parent (vp_updL span k 0) dig hei opn O k m := by
          intro i hi
          obtain ⟨q1, q2, q3, q4, q5⟩ := hS i hi
          have hO := (hS.lt i hi).1
          exact ⟨q1, q2, by rw [hl _ hO]; exact q3, q4.same (fun j h1 h2 => ⟨hl j (by omega), hr j (by omega), rfl, hsame j (by omega), rfl, rfl⟩), by rw [hr _ hO]; exact q5⟩
        obtain ⟨m', left', parent', span', dig', hei', e, g1, g2, g3, g4, g5, g6, g7, g8⟩ := pop_loop hk50 hp hpr 20000 m (upd left k (-6)) parent (vp_updL span k 0) dig hei (by omega) hS1 (Done.none hN) (Or.inl ⟨hN, upd_s _ _ _⟩) (fun j h1 h2 h3 => absurd h3 (by rw [hN j h1 h2]; decide)) (fun j h1 h2 => by rw [hsame j h1]; exact hz j h1 h2)
        rw [e, Option.bind_some]
        have hIk : IsR s p (Bs O m') (k + 1) k := ⟨Bs_le g2 m' (Nat.le_refl _), by omega, hp, fun j h1 h2 h3 h4 => g5 j h1 (by omega) h3⟩
        have hOrk : ∀ i, i < m' → rk s (O i) k := by
          intro i hi
          by_cases z : i = m' - 1
          · rw [z]; exact g7 (by omega)
          · refine rk_tr ((g2 i hi).2.1.2.2.2 (O (m' - 1)) ?_ (g2.lt (m' - 1) (by omega)).1 (g2 (m' - 1) (by omega)).2.1.2.2.1 ?_) (g7 (by omega))
            · have h1 := Bs_mono g2 (m' - 1) i (by omega) (by omega)
              have h2 := (g2 (m' - 1) (by omega)).2.1.1
              have h3 := (g2 i hi).2.1.1
              omega
            · have h1 := Bs_mono g2 (m' - 1) i (by omega) (by omega)
              have h2 := (g2 (m' - 1) (by omega)).2.1.1
              omega
        have hz' : ∀ j, j < k + 1 → p j = false → span' j = 0 := fun j h1 h2 => g6 j (by
          by_cases z : j = k
          · rw [z, hp] at h2; exact absurd h2 (by decide)
          · omega) h2
        -- the new stack, for any row right2 that tells the right of each
        have hnew : ∀ right2 : Nat → Int32, (∀ j, j < k → (0 < m' → j ≠ O (m' - 1)) → right2 j = right j) → (0 < m' → right2 (O (m' - 1)) = nI k) → right2 k = -6 → Stk s p left' right2 parent' span' dig' hei' (upd opn m' (nI k)) (fun i => if i = m' then k else O i) (k + 1) (m' + 1) := by
          intro right2 a1 a2 a3 i hi
          by_cases z : i = m'
          · subst z
            have hBk := Bs_le g2 i (Nat.le_refl _)
            refine ⟨by rw [upd_s]; show nI k = nI (if i = i then k else O i); rw [if_pos rfl], ?_, ?_, ?_, ?_⟩
            · rw [Bs_up (Nat.le_refl _)]; simp only [if_true]; exact hIk
            · rw [Bs_up (Nat.le_refl _)]; simp only [if_true]; exact g4
            · rw [Bs_up (Nat.le_refl _)]
              simp only [if_true]
              refine g3.same (fun j h1 h2 => ⟨rfl, ?_, rfl, rfl, rfl, rfl⟩)
              rw [a1 j h2 (fun h0 hh => by have := Bs_mono g2 i (i - 1) (by omega) (Nat.le_refl _); omega), hr j h2]
            · show RV s p ((if i = i then k else O i) + 1) (k + 1) (right2 (if i = i then k else O i))
              simp only [if_true]
              exact Or.inl ⟨NoK.none (by omega), a3⟩
          · have him : i < m' := by omega
            obtain ⟨q1, q2, q3, q4, q5⟩ := g2 i him
            have hO := g2.lt i him
            have e1 : (if i = m' then k else O i) = O i := if_neg z
            refine ⟨by rw [upd_n _ _ z]; simp only [e1]; exact q1, ?_, ?_, ?_, ?_⟩
            · rw [Bs_up (by omega)]; simp only [e1]; exact IsR_rk q2 (hOrk i him)
            · rw [Bs_up (by omega)]; simp only [e1]; exact q3
            · rw [Bs_up (by omega)]
              simp only [e1]
              refine q4.same (fun j h1 h2 => ⟨rfl, ?_, rfl, rfl, rfl, rfl⟩)
              rw [a1 j (by omega) (fun h0 hh => by
                by_cases w : i = m' - 1
                · rw [w] at h2; omega
                · have := Bs_mono g2 (m' - 1) i (by omega) (by omega)
                  have := (g2 (m' - 1) (by omega)).2.1.1
                  omega), hr j (by omega)]
            · rw [Bs_up (by omega)]
              simp only [e1]
              by_cases w : i = m' - 1
              · have ei : m' = i + 1 := by omega
                subst ei
                have : right2 (O i) = nI k := a2 (by omega)
                rw [this]
                exact Or.inr ⟨k, hIk, rfl⟩
              · have e2 : right2 (O i) = upd right k (-6) (O i) := by
                  rw [a1 (O i) hO.1 (fun h0 hh => by
                    have := Bs_mono g2 (m' - 1) i (by omega) (by omega)
                    have := (g2 (m' - 1) (by omega)).2.1.1
                    omega), hr _ hO.1]
                rw [e2]
                have q6 := (g2 (i + 1) (by omega)).2.1
                rw [RV_un q5 (Or.inr ⟨O (i + 1), q6, rfl⟩)]
                exact Or.inr ⟨O (i + 1), IsR_rk q6 (hOrk (i + 1) (by omega)), rfl⟩
        have hNn : NoK p (Bs (fun i => if i = m' then k else O i) (m' + 1)) (k + 1) := NoK.none (by show k + 1 ≤ (if m' = m' then k else O m') + 1; rw [if_pos rfl]; omega)
        by_cases hm0 : m' = 0
        · subst hm0
          rw [if_pos (show nI 0 ≤ (0 : Int32) by decide), aset_nI (by omega) (by decide), Option.bind_some, nI_one, nI_one]
          exact ih (k + 1) 1 _ _ _ _ _ _ _ _ (by omega) (by omega) (hnew (upd right k (-6)) (fun j h1 _ => hr j h1) (fun h => absurd h (by omega)) (upd_s _ _ _)) hNn hz'
        · obtain ⟨w, rfl⟩ : ∃ w, m' = w + 1 := ⟨m' - 1, by omega⟩
          have hO := g2.lt w (by omega)
          rw [lit32 0, if_neg (nI_ge (by omega) (by omega)), nI_sone, aget_nI (by omega) (by decide), Option.bind_some, (g2 w (by omega)).1, aset_nI (by omega) (by decide), Option.bind_some, aset_nI (by omega) (by decide), Option.bind_some, nI_one, nI_one]
          refine ih (k + 1) (w + 1 + 1) _ _ _ _ _ _ _ _ (by omega) (by omega) (hnew (upd (upd right k (-6)) (O w) (nI k)) (fun j h1 h2 => ?_) (fun _ => upd_s _ _ _) ?_) hNn hz'
          · rw [upd_n _ _ (show j ≠ O w from h2 (by omega)), hr j h1]
          · rw [upd_n _ _ (by omega), upd_s]
      · have hp' : p k = false := by simpa using hp
        have hb0 : b01 (p k) = 0 := by rw [hp']; rfl
        rw [hb0, if_pos rfl, nI_one]
        refine ih (k + 1) m _ _ _ _ _ _ _ O (by omega) (by omega) ?_ (NoK_no hN hp') ?_
        · intro i hi
          obtain ⟨q1, q2, q3, q4, q5⟩ := hS i hi
          have hO := (hS.lt i hi).1
          exact ⟨q1, IsR_no q2 hp', q3, q4.same (fun j h1 h2 => ⟨rfl, rfl, rfl, hsame j (by omega), rfl, rfl⟩), RV_no q5 hp'⟩
        · intro j h1 h2
          by_cases z : j = k
          · rw [z, updL_s]
          · rw [hsame j (by omega)]; exact hz j (by omega) h2
theorem fin_loop {left right opn : Nat → Int32} {O : Nat → Nat} : ∀ (n m : Nat) (parent : Nat → Int32) (span : Nat → Int64) (root : Int32) (dig hei : Nat → Int32), m + 1 ≤ n → Stk s p left right parent span dig hei opn O 50 m → Done s p left right parent span dig hei (Bs O m) 50 → RV s p (Bs O m) 50 root → (∀ j, j < 50 → p j = false → span j = 0) →
    ∃ (parent' : Nat → Int32) (span' : Nat → Int64) (root' : Int32) (dig' hei' : Nat → Int32), L_X4_grow_161 n left right parent span root dig hei opn (nI m) = some (parent', span', root', dig', hei') ∧ Done s p left right parent' span' dig' hei' 0 50 ∧ RV s p 0 50 root' ∧ (∀ j, j < 50 → p j = false → span' j = 0) := by
  intro n
  induction n with
  | zero => intro m parent span root dig hei h; omega
  | succ n ih =>
    intro m parent span root dig hei hmn hS hD hV hz
    rw [L_X4_grow_161]
    have hmk := hS.m
    cases m with
    | zero => exact ⟨parent, span, root, dig, hei, by rw [if_pos (by decide)], hD, hV, hz⟩
    | succ m =>
      obtain ⟨eo, hR, hL, hDl, hRr⟩ := hS m (Nat.lt_succ_self m)
      have hO := hS.lt m (Nat.lt_succ_self m)
      rw [lit32 0, if_neg (nI_ge (by omega) (by omega)), nI_mone, aget_nI (by omega) (by decide), Option.bind_some, eo]
      obtain ⟨parent', span', dig', hei', ef, hDn, hout, hsp⟩ := finish_eq (by omega) hR hL hRr hDl hD
      rw [ef, Option.bind_some]
      refine ih m parent' span' (nI (O m)) dig' hei' (by omega) ?_ hDn (Or.inr ⟨O m, hR, rfl⟩) (fun j h1 h2 => by rw [hsp j h2]; exact hz j h1 h2)
      intro i hi
      obtain ⟨q1, q2, q3, q4, q5⟩ := hS i (by omega)
      refine ⟨q1, q2, q3, q4.same (fun j h1 h2 => ?_), q5⟩
      obtain ⟨w1, w2, w3, w4⟩ := hout j (Or.inl (by have := Bs_mono hS m i hi (by omega); omega))
      exact ⟨rfl, rfl, w1, w2, w3, w4⟩
/-- the rows are those of the tree of p by seed s -/
def TreeOK (s : Nat) (p : Nat → Bool) (left right parent : Nat → Int32) (span : Nat → Int64) (root : Int32) (dig hei : Nat → Int32) : Prop :=
  RV s p 0 50 root ∧ Done s p left right parent span dig hei 0 50 ∧ (∀ j, j < 50 → p j = false → span j = 0) ∧ (∀ r, IsR s p 0 50 r → parent r = -6)
theorem grow_eq (hs : s < 10000) {prio : Nat → Int32} {by_ : Int32} (hPB : PB prio by_) {keys : Int64} (hb : ∀ j, j < 50 → bx keys j = p j) (left right parent : Nat → Int32) (span : Nat → Int64) (root : Int32) (dig hei opn : Nat → Int32) :
    ∃ (left' right' parent' : Nat → Int32) (span' : Nat → Int64) (root' : Int32) (dig' hei' prio' opn' : Nat → Int32), f_X4_grow left right parent span root dig hei prio by_ opn keys (nI s) = some (left', right', parent', span', root', dig', hei', prio', nI s, opn') ∧ TreeOK s p left' right' parent' span' root' dig' hei' ∧ Priced s prio' := by
  obtain ⟨prio', e1, hpr⟩ := price_eq (s := s) hs hPB
  obtain ⟨m', left', right', parent', span', dig', hei', opn', O', e2, hS, hN, hz⟩ := grow_loop (s := s) hpr hb 20000 0 0 left right parent span dig hei opn (fun _ => 0) (by omega) (by omega) (fun i hi => absurd hi (by omega)) (NoK.none (Nat.le_refl _)) (fun j hj => absurd hj (by omega))
  have hmk := hS.m
  obtain ⟨parent2, span2, root2, dig2, hei2, e3, hD2, hV2, hz2⟩ := fin_loop 20000 m' parent' span' (-6) dig' hei' (by omega) hS (Done.none hN) (Or.inl ⟨hN, rfl⟩) hz
  have e2' : L_X4_grow_11 20000 left right parent span dig hei prio' opn keys (0 : Int32) (0 : Int32) = some (nI m', left', right', parent', span', dig', hei', opn') := e2
  unfold f_X4_grow
  simp only [e1, e2', e3, Option.bind_some]
  rcases hV2 with ⟨hn, rfl⟩ | ⟨r, hr, rfl⟩
  · rw [if_pos neg6]
    exact ⟨_, _, _, _, _, _, _, _, _, rfl, ⟨Or.inl ⟨hn, rfl⟩, hD2, hz2, fun r hr => absurd hr (fun hr => root_no hn hr)⟩, hpr⟩
  · have h50 := hr.2.1
    rw [if_neg (nI_pos (by omega)), aset_nI h50 (by decide), Option.bind_some]
    refine ⟨_, _, _, _, _, _, _, _, _, rfl, ⟨Or.inr ⟨r, hr, rfl⟩, ?_, hz2, fun q hq => by rw [root_un hq hr, upd_s]⟩, hpr⟩
    intro j h1 h2 h3
    obtain ⟨a, b, g, f, q⟩ := hD2 j h1 h2 h3
    refine ⟨a, b, g, f, ?_⟩
    rcases q with q | ⟨q, q1, q2⟩
    · exact Or.inl q
    · by_cases z : j = r
      · subst z
        have t := Seg_top hr
        exact Or.inl ⟨La_un g.2.1 t.2.1, Rb_un g.2.2 t.2.2⟩
      · exact Or.inr ⟨q, q1, by rw [upd_n _ _ z]; exact q2⟩
end Grow2
