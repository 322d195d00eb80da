section FaultPart
def Dn (signs : Nat → Int32) (count : Int32) (act which key other : Nat → Int32) (a : Nat) (pos : Nat → Nat) : Prop := pos 0 = 0 ∧ ∀ i, i < a → AtOK signs count act which key other i (pos i) (pos (i + 1))
theorem Dn_pos {signs : Nat → Int32} {count : Int32} {act which key other : Nat → Int32} {a : Nat} {pos : Nat → Nat} (h : Dn signs count act which key other a pos) : ∀ i, i ≤ a → i ≤ pos i := by
  intro i
  induction i with
  | zero => intro _; omega
  | succ i ih =>
    intro hi
    obtain ⟨_, _, _, _, _, _, _, _, lt, _⟩ := h.2 i (by omega)
    have := ih (by omega)
    omega
theorem Dn_upd {signs : Nat → Int32} {count : Int32} {act which key other act' which' key' other' : Nat → Int32} {a : Nat} {pos : Nat → Nat} (h : Dn signs count act which key other a pos) (e1 : ∀ i, i < a → act' i = act i) (e2 : ∀ i, i < a → which' i = which i) (e3 : ∀ i, i < a → key' i = key i) (e4 : ∀ i, i < a → other' i = other i) : Dn signs count act' which' key' other' a pos :=
  ⟨h.1, fun i hi => AtOK_congr (h.2 i hi) (e1 i hi) (e2 i hi) (e3 i hi) (e4 i hi)⟩
theorem Dn_step {signs : Nat → Int32} {count : Int32} {act which key other : Nat → Int32} {a q : Nat} {pos : Nat → Nat} (h : Dn signs count act which key other a pos) (hA : AtOK signs count act which key other a (pos a) q) : Dn signs count act which key other (a + 1) (fun i => if i = a + 1 then q else pos i) := by
  refine ⟨?_, fun i hi => ?_⟩
  · show (if 0 = a + 1 then q else pos 0) = 0
    rw [if_neg (by omega)]; exact h.1
  · show AtOK signs count act which key other i (if i = a + 1 then q else pos i) (if i + 1 = a + 1 then q else pos (i + 1))
    rw [if_neg (show ¬ i = a + 1 by omega)]
    by_cases z : i = a
    · subst z; rw [if_pos rfl]; exact hA
    · rw [if_neg (show ¬ i + 1 = a + 1 by omega)]; exact h.2 i (by omega)
def PS (signs act which key other : Nat → Int32) (a p j : Nat) (l1 m1 : Int32) : Prop :=
  (l1 = 0 ∧ m1 = 0 ∧ j = p) ∨
  (l1 = 1 ∧ m1 = 1 ∧ j = p + 1 ∧ ∃ s, s < 4 ∧ signs p = nI (65 + s) ∧ which a = nI s ∧ key a = nI 0 ∧ other a = nI 0) ∨
  (m1 = 2 ∧ j = p + 2 ∧ ∃ s m, s < 4 ∧ m < 3 ∧ l1 = (if m = 2 then 4 else 2) ∧ signs p = nI (65 + s) ∧ signs (p + 1) = nI (kc m) ∧ act a = nI m ∧ which a = nI s ∧ key a = nI 0 ∧ other a = nI 0) ∨
  (m1 = 3 ∧ j = p + 3 ∧ ∃ s m t, s < 4 ∧ m < 3 ∧ t < 5 ∧ l1 = (if m = 2 then 5 else 3) ∧ signs p = nI (65 + s) ∧ signs (p + 1) = nI (kc m) ∧ signs (p + 2) = nI (48 + t) ∧ act a = nI m ∧ which a = nI s ∧ key a = nI t ∧ other a = nI 0) ∨
  (l1 = 6 ∧ m1 = 4 ∧ j = p + 4 ∧ ∃ s t u, s < 4 ∧ t < 5 ∧ u < 10 ∧ signs p = nI (65 + s) ∧ signs (p + 1) = nI (kc 2) ∧ signs (p + 2) = nI (48 + t) ∧ signs (p + 3) = nI (48 + u) ∧ act a = nI 2 ∧ which a = nI s ∧ key a = nI (10 * t + u)) ∨
  (l1 = 6 ∧ m1 = 4 ∧ j = p + 2 ∧ ∃ s m, s < 4 ∧ m < 7 ∧ 3 ≤ m ∧ signs p = nI (65 + s) ∧ signs (p + 1) = nI (kc m) ∧ act a = nI m ∧ which a = nI s ∧ key a = nI 0)
def Out (signs : Nat → Int32) (np : Nat) (r : Int32) (act which key other : Nat → Int32) (acts : Int32) : Prop :=
  (r = -6 ∧ ∃ a pos, acts = nI a ∧ pos a = np ∧ Dn signs (nI np) act which key other a pos) ∨ (∃ z, z ≤ 60 ∧ r = nI z)
theorem fz1 : ∀ m, m < 7 → ¬ (if m < 2 then (2 : Int32) else if m = 2 then 4 else 6) = -6 := by decide +kernel
theorem fz2 : ∀ m, m < 7 → (0 : Int32) ≤ (if m < 3 then (2 : Int32) else 4) := by decide +kernel
/-- one step of both readers -/
theorem step_eq {signs act which key other : Nat → Int32} {np a p j c : Nat} {l1 m1 : Int32} (hn : np ≤ 60) (ha : a < 60) (hj : j < np) (hc : c < 127) (e : signs j = nI c) (h : PS signs act which key other a p j l1 m1) (pos : Nat → Nat) (hp : pos a = p) (hD : Dn signs (nI np) act which key other a pos) :
    (f_X2_follow l1 (nI c) = some (-6) ∧ ∃ act' which' key' other' acts', f_X8_readOn act which key other (nI a) m1 (nI c) = some (-6, act', which', key', other', acts')) ∨
    (∃ l1' m1' act' which' key' other' a' pos', f_X2_follow l1 (nI c) = some l1' ∧ ¬ l1' = -6 ∧ (0 : Int32) ≤ m1' ∧ f_X8_readOn act which key other (nI a) m1 (nI c) = some (m1', act', which', key', other', nI a') ∧ Dn signs (nI np) act' which' key' other' a' pos' ∧ PS signs act' which' key' other' a' (pos' a') (j + 1) l1' m1') := by
  subst hp
  unfold f_X8_readOn
  rcases h with ⟨rfl, rfl, rfl⟩ | ⟨rfl, rfl, rfl, s, hs, s0, w0, k0, o0⟩ | ⟨rfl, rfl, s, m, hs, hm, hl, s0, s1, a0, w0, k0, o0⟩ | ⟨rfl, rfl, s, m, t, hs, hm, ht, hl, s0, s1, s2, a0, w0, k0, o0⟩ | ⟨rfl, rfl, rfl, s, t, u, hs, ht, hu, s0, s1, s2, s3, a0, w0, k0⟩ | ⟨rfl, rfl, rfl, s, m, hs, hm, hm3, s0, s1, a0, w0, k0⟩
  · rw [if_pos rfl, fol0 c hc]
    unfold f_X8_begin
    rw [in6568 c hc]
    simp only [Option.bind_some]
    by_cases c1 : c = 33
    · subst c1
      refine Or.inr ⟨0, 0, upd act a 7, upd which a 0, upd key a 0, upd other a 0, a + 1, fun i => if i = a + 1 then pos a + 1 else pos i, rfl, by decide, by decide, ?_, ?_, Or.inl ⟨rfl, rfl, ?_⟩⟩
      · simp only [show ¬ (65 ≤ 33 ∧ 33 ≤ 68) by omega, if_false, if_true, Option.bind_some]
        unfold f_X8_ends
        rw [aset_nI ha (by decide), aset_nI ha (by decide), aset_nI ha (by decide), aset_nI ha (by decide)]
        simp only [Option.bind_some]
        rw [if_pos (show nI 33 = (33 : Int32) from rfl), nI_one]
        rfl
      · refine Dn_step (Dn_upd hD (fun i hi => upd_n _ _ (by omega)) (fun i hi => upd_n _ _ (by omega)) (fun i hi => upd_n _ _ (by omega)) (fun i hi => upd_n _ _ (by omega))) ⟨7, 0, 0, 0, by omega, by omega, by omega, by omega, by omega, upd_s _ _ _, upd_s _ _ _, upd_s _ _ _, upd_s _ _ _, rd1 hn hj e⟩
      · show pos a + 1 = (if a + 1 = a + 1 then pos a + 1 else pos (a + 1))
        rw [if_pos rfl]
    · have n33 : ¬ (nI c = (33 : Int32)) := fun q => c1 (nI_inj (a := c) (b := 33) (by omega) (by decide) q)
      rw [if_neg c1]
      by_cases c2 : 65 ≤ c ∧ c ≤ 68
      · obtain ⟨s, rfl⟩ : ∃ s, c = 65 + s := ⟨c - 65, by omega⟩
        refine Or.inr ⟨1, 1, upd act a 7, upd which a (nI s), upd key a 0, upd other a 0, a, pos, ?_, by decide, by decide, ?_, Dn_upd hD (fun i hi => upd_n _ _ (by omega)) (fun i hi => upd_n _ _ (by omega)) (fun i hi => upd_n _ _ (by omega)) (fun i hi => upd_n _ _ (by omega)), Or.inr (Or.inl ⟨rfl, rfl, rfl, s, by omega, e, upd_s _ _ _, upd_s _ _ _, upd_s _ _ _⟩)⟩
        · rw [if_pos c2]
        · simp only [c2, n10e, and_self, if_false, if_true, Option.bind_some, let_back]
          rw [aset_nI ha (by decide), aset_nI ha (by decide), aset_nI ha (by decide), aset_nI ha (by decide)]
          simp only [Option.bind_some]
          rw [if_neg n33]
          rfl
      · refine Or.inl ⟨by rw [if_neg c2], upd act a 7, upd which a 0, upd key a 0, upd other a 0, nI a, ?_⟩
        simp only [c2, if_false, if_true, Option.bind_some]
        rw [aset_nI ha (by decide), aset_nI ha (by decide), aset_nI ha (by decide), aset_nI ha (by decide)]
        simp only [Option.bind_some]
        rw [if_neg n33]
        rfl
  · rw [if_neg (by decide), if_pos rfl]
    rcases fol1n c hc with ⟨m, hm, rfl⟩ | q
    · rw [begun_yes ha act hm, fol1 m hm, Option.bind_some]
      refine Or.inr ⟨_, _, upd act a (nI m), which, key, other, a, pos, rfl, ?_, ?_, rfl, Dn_upd hD (fun i hi => upd_n _ _ (by omega)) (fun i hi => rfl) (fun i hi => rfl) (fun i hi => rfl), ?_⟩
      · exact fz1 m hm
      · exact fz2 m hm
      · by_cases c3 : m < 3
        · refine Or.inr (Or.inr (Or.inl ⟨?_, rfl, s, m, hs, c3, ?_, s0, e, upd_s _ _ _, w0, k0, o0⟩))
          · show (if m < 3 then (2 : Int32) else 4) = 2
            rw [if_pos c3]
          · by_cases c4 : m = 2
            · rw [if_neg (show ¬ m < 2 by omega)]; simp only [c4, if_true]
            · rw [if_pos (show m < 2 by omega), if_neg c4]
        · refine Or.inr (Or.inr (Or.inr (Or.inr (Or.inr ⟨?_, ?_, rfl, s, m, hs, hm, by omega, s0, e, upd_s _ _ _, w0, k0⟩))))
          · rw [if_neg (show ¬ m < 2 by omega), if_neg (show ¬ m = 2 by omega)]
          · show (if m < 3 then (2 : Int32) else 4) = 4
            rw [if_neg c3]
    · by_cases c3 : ∃ m, m < 7 ∧ c = kc m
      · obtain ⟨m, hm, rfl⟩ := c3
        rw [fol1 m hm] at q
        exact absurd (Option.some.inj q) (fz1 m hm)
      · refine Or.inl ⟨q, act, which, key, other, nI a, ?_⟩
        rw [begun_no hc c3, Option.bind_some]
  · rw [if_neg (show ¬ (2 : Int32) = 0 by decide), if_neg (show ¬ (2 : Int32) = 1 by decide), if_neg (show ¬ (2 : Int32) = 4 by decide)]
    unfold f_X8_figure
    rw [aget_nI ha (by decide), Option.bind_some, aset_nI ha (by decide), Option.bind_some, if_pos rfl, Option.bind_some, in4852 c hc, Option.bind_some, k0]
    by_cases c1 : 48 ≤ c ∧ c ≤ 52
    · obtain ⟨t, rfl⟩ : ∃ t, c = 48 + t := ⟨c - 48, by omega⟩
      have kv : (10 : Int32) * nI 0 + nI (48 + t) - (48 : Int32) = nI t := by
        rw [lit32 48, lit32 10, pk_mul, nI_add, pk_sub (by omega)]; congr 1; omega
      rw [kv, if_pos c1, if_neg (show ¬ (1 : Int32) = 0 by decide), if_pos rfl, Option.bind_some]
      refine Or.inr ⟨(if m = 2 then 5 else 3), 3, act, which, upd key a (nI t), other, a, pos, ?_, ?_, by decide, rfl, Dn_upd hD (fun i hi => rfl) (fun i hi => rfl) (fun i hi => upd_n _ _ (by omega)) (fun i hi => rfl), Or.inr (Or.inr (Or.inr (Or.inl ⟨rfl, rfl, s, m, t, hs, hm, by omega, rfl, s0, s1, e, a0, w0, upd_s _ _ _, o0⟩)))⟩
      · by_cases c4 : m = 2
        · rw [hl, if_pos c4, if_pos c4, fol4 _ hc, if_pos c1]
        · rw [hl, if_neg c4, if_neg c4, fol2 _ hc, if_pos c1]
      · by_cases c4 : m = 2
        · rw [if_pos c4]; decide
        · rw [if_neg c4]; decide
    · rw [if_neg c1, if_pos rfl, Option.bind_some]
      refine Or.inl ⟨?_, _, _, _, _, _, rfl⟩
      by_cases c4 : m = 2
      · rw [hl, if_pos c4, fol4 _ hc, if_neg c1]
      · rw [hl, if_neg c4, fol2 _ hc, if_neg c1]
  · rw [if_neg (show ¬ (3 : Int32) = 0 by decide), if_neg (show ¬ (3 : Int32) = 1 by decide), if_neg (show ¬ (3 : Int32) = 4 by decide)]
    unfold f_X8_figure
    rw [aget_nI ha (by decide), Option.bind_some, aset_nI ha (by decide), Option.bind_some, if_neg (show ¬ (3 : Int32) = 2 by decide), Option.bind_some, in4857 c hc, Option.bind_some, k0]
    by_cases c1 : 48 ≤ c ∧ c ≤ 57
    · obtain ⟨u, rfl⟩ : ∃ u, c = 48 + u := ⟨c - 48, by omega⟩
      have kv : (10 : Int32) * nI t + nI (48 + u) - (48 : Int32) = nI (10 * t + u) := by
        rw [lit32 48, lit32 10, pk_mul, nI_add, pk_sub (by omega)]; congr 1; omega
      rw [kv, if_pos c1, if_neg (show ¬ (1 : Int32) = 0 by decide), if_neg (show ¬ (3 : Int32) = 2 by decide), aget_nI ha (by decide), Option.bind_some, a0]
      by_cases c4 : m = 2
      · subst c4
        rw [if_pos rfl] at hl
        subst hl
        rw [if_pos (show nI 2 = (2 : Int32) from rfl), Option.bind_some]
        exact Or.inr ⟨6, 4, act, which, upd key a (nI (10 * t + u)), other, a, pos, by rw [fol5 _ hc, if_pos c1], by decide, by decide, rfl, Dn_upd hD (fun i hi => rfl) (fun i hi => rfl) (fun i hi => upd_n _ _ (by omega)) (fun i hi => rfl), Or.inr (Or.inr (Or.inr (Or.inr (Or.inl ⟨rfl, rfl, rfl, s, t, u, hs, ht, by omega, s0, s1, s2, e, a0, w0, upd_s _ _ _⟩))))⟩
      · rw [if_neg c4] at hl
        subst hl
        rw [if_neg (show ¬ nI m = (2 : Int32) from fun q => c4 (nI_inj (a := m) (b := 2) (by omega) (by decide) q))]
        unfold f_X8_ends
        simp only [Option.bind_some, nI_one]
        refine Or.inr ⟨0, 0, act, which, upd key a (nI (10 * t + u)), other, a + 1, fun i => if i = a + 1 then pos a + 4 else pos i, by rw [fol3 _ hc, if_pos c1], by decide, by decide, rfl, ?_, Or.inl ⟨rfl, rfl, ?_⟩⟩
        · exact Dn_step (Dn_upd hD (fun i hi => rfl) (fun i hi => rfl) (fun i hi => upd_n _ _ (by omega)) (fun i hi => rfl)) ⟨m, s, 10 * t + u, 0, by omega, hs, by omega, by omega, by omega, a0, w0, upd_s _ _ _, o0, rd4 hn hj hs (by omega) s0 s1 s2 e⟩
        · show pos a + 3 + 1 = (if a + 1 = a + 1 then pos a + 4 else pos (a + 1))
          rw [if_pos rfl]
    · rw [if_neg c1, if_pos rfl, Option.bind_some]
      refine Or.inl ⟨?_, _, _, _, _, _, rfl⟩
      by_cases c4 : m = 2
      · rw [hl, if_pos c4, fol5 _ hc, if_neg c1]
      · rw [hl, if_neg c4, fol3 _ hc, if_neg c1]
  · rw [if_neg (by decide), if_neg (by decide), if_pos rfl, fol6 c hc]
    unfold f_X8_another f_X8_ends
    rw [aset_nI ha (by decide), Option.bind_some, in6568 c hc, Option.bind_some]
    by_cases c1 : 65 ≤ c ∧ c ≤ 68
    · obtain ⟨o, rfl⟩ : ∃ o, c = 65 + o := ⟨c - 65, by omega⟩
      rw [if_pos c1, if_pos c1, if_neg (by decide), let_back, Option.bind_some, Option.bind_some, nI_one]
      refine Or.inr ⟨0, 0, act, which, key, upd other a (nI o), a + 1, fun i => if i = a + 1 then pos a + 5 else pos i, rfl, by decide, by decide, rfl, ?_, Or.inl ⟨rfl, rfl, ?_⟩⟩
      · exact Dn_step (Dn_upd hD (fun i hi => rfl) (fun i hi => rfl) (fun i hi => rfl) (fun i hi => upd_n _ _ (by omega))) ⟨2, s, 10 * t + u, o, by omega, hs, by omega, by omega, by omega, a0, w0, k0, upd_s _ _ _, rd5 hn hj hs (by omega) s0 s1 s2 s3 e⟩
      · show pos a + 4 + 1 = (if a + 1 = a + 1 then pos a + 5 else pos (a + 1))
        rw [if_pos rfl]
    · rw [if_neg c1, if_neg c1, if_pos rfl, Option.bind_some]
      exact Or.inl ⟨rfl, _, _, _, _, _, rfl⟩
  · rw [if_neg (by decide), if_neg (by decide), if_pos rfl, fol6 c hc]
    unfold f_X8_another f_X8_ends
    rw [aset_nI ha (by decide), Option.bind_some, in6568 c hc, Option.bind_some]
    by_cases c1 : 65 ≤ c ∧ c ≤ 68
    · obtain ⟨o, rfl⟩ : ∃ o, c = 65 + o := ⟨c - 65, by omega⟩
      rw [if_pos c1, if_pos c1, if_neg (by decide), let_back, Option.bind_some, Option.bind_some, nI_one]
      refine Or.inr ⟨0, 0, act, which, key, upd other a (nI o), a + 1, fun i => if i = a + 1 then pos a + 3 else pos i, rfl, by decide, by decide, rfl, ?_, Or.inl ⟨rfl, rfl, ?_⟩⟩
      · exact Dn_step (Dn_upd hD (fun i hi => rfl) (fun i hi => rfl) (fun i hi => rfl) (fun i hi => upd_n _ _ (by omega))) ⟨m, s, 0, o, by omega, hs, by omega, by omega, by omega, a0, w0, k0, upd_s _ _ _, rd3 hn hj hs (by omega) hm hm3 s0 s1 e⟩
      · show pos a + 2 + 1 = (if a + 1 = a + 1 then pos a + 3 else pos (a + 1))
        rw [if_pos rfl]
    · rw [if_neg c1, if_neg c1, if_pos rfl, Option.bind_some]
      exact Or.inl ⟨rfl, _, _, _, _, _, rfl⟩
end FaultPart
