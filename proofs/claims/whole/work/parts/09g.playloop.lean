section PlayPre
theorem nI_n6 {a : Nat} (h : a ≤ 60) : ¬ nI a = (-6 : Int32) := fun q => by
  have := congrArg Int32.toInt q
  rw [nI_toInt (by omega)] at this
  have e6 : (-6 : Int32).toInt = -6 := rfl
  omega
theorem Dn_lt {signs : Nat → Int32} {count : Int32} {act which key other : Nat → Int32} {a : Nat} {pos : Nat → Nat} (h : Dn signs count act which key other a pos) {i : Nat} (hi : i ≤ a) : pos i ≤ pos a := by
  obtain ⟨d, rfl⟩ : ∃ d, a = i + d := ⟨a - i, by omega⟩
  have : ∀ e, e ≤ d → pos i ≤ pos (i + e) := by
    intro e
    induction e with
    | zero => intro _; exact Nat.le_refl _
    | succ e ih =>
      intro he
      obtain ⟨_, _, _, _, _, _, _, _, lt, _⟩ := h.2 (i + e) (by omega)
      have := ih (by omega)
      have e1 : i + (e + 1) = i + e + 1 := by omega
      rw [e1]; omega
  exact this d (Nat.le_refl _)
theorem len_eq {p q : Nat} (h : p < q) (hq : q ≤ 60) : nI p + (if (1 : Int32) < nI (q - p) then nI (q - p) else 1) = nI q := by
  have e : ((1 : Int32) < nI (q - p)) = (1 < q - p) := nI_lt' (a := 1) (by decide) (by omega)
  simp only [e]
  by_cases c : 1 < q - p
  · rw [if_pos c, nI_add]; congr 1; omega
  · rw [if_neg c, nI_one]; congr 1; omega
end PlayPre
section PlayLoop
/-- what both hold when the acts are through -/
def Fin2 (a : Nat) (keys : Nat → Int64) (seed : Int32) (acts why work aa pp : Int32) (isW : Int32) (mseed : Int32) (is : Nat → Int32) (badAct badWhy maa mpp mwork : Int32) : Prop :=
  (∃ (S : Nat → Nat → Bool) (sd : Nat), sd < 10000 ∧ seed = nI sd ∧ mseed = nI sd ∧ SetR S keys is) ∧ maa = aa ∧ mpp = pp ∧ (¬ isW = 0 → mwork = work) ∧ ((why = 0 ∧ acts = nI a ∧ badAct = -6 ∧ badWhy = -6) ∨ ∃ i y, i < 60 ∧ 1 ≤ y ∧ y ≤ 6 ∧ acts = nI i ∧ why = nI y ∧ badAct = nI i ∧ badWhy = nI y)
theorem cpy4 {keys bk : Nat → Int64} (seed bs : Int32) : ∃ k', f_X6_copy bk bs keys seed = some (k', seed) ∧ ∀ g, g < 4 → k' g = keys g := by
  unfold f_X6_copy
  exact ⟨_, rfl, fun g hg => by
    have four : (4 : Int32).toNatClampNeg = 4 := rfl
    rw [four]; exact cpy_in hg⟩
theorem SetR_keys {S : Nat → Nat → Bool} {keys keys' : Nat → Int64} {is : Nat → Int32} (h : SetR S keys is) (e : ∀ g, g < 4 → keys' g = keys g) : SetR S keys' is := fun g hg => by
  obtain ⟨h1, h2, h3⟩ := h g hg
  exact ⟨by rw [e g hg]; exact h1, h2, h3⟩
theorem play_loop {signs act which key other : Nat → Int32} {np a : Nat} {pos : Nat → Nat} (hn : np ≤ 60) (hD : Dn signs (nI np) act which key other a pos) (hpa : pos a = np) (isW : Int32) : ∀ n i (k1 k2 k3 k4 : Int32) (bleft : Nat → Int32) (bright : Nat → Int32) (bparent : Nat → Int32) (bspan : Nat → Int64) (broot : Int32) (bdig : Nat → Int32) (bhei : Nat → Int32) (bprio : Nat → Int32) (bby_ : Int32) (bopn : Nat → Int32) (cleft : Nat → Int32) (cright : Nat → Int32) (cparent : Nat → Int32) (cspan : Nat → Int64) (croot : Int32) (cdig : Nat → Int32) (chei : Nat → Int32) (cprio : Nat → Int32) (cby_ : Int32) (copn : Nat → Int32) (ak : Nat → Int64) (bk : Nat → Int64) (bs : Int32) (S : Nat → Nat → Bool) (sd w : Nat) (aa pp : Int32) (is : Nat → Int32) (mw : Int32) (trees : Nat → Int64), i ≤ a → 62 ≤ i + n → PB bprio bby_ → PB cprio cby_ → sd < 10000 → SetR S ak is → (aa = -6 ∨ ∃ x, x ≤ 60 ∧ aa = nI x) → (¬ isW = 0 → mw = nI w) →
    ∃ (j1 j2 j3 j4 : Int32) (dleft : Nat → Int32) (dright : Nat → Int32) (dparent : Nat → Int32) (dspan : Nat → Int64) (droot : Int32) (ddig : Nat → Int32) (dhei : Nat → Int32) (dprio : Nat → Int32) (dby_ : Int32) (dopn : Nat → Int32) (eleft : Nat → Int32) (eright : Nat → Int32) (eparent : Nat → Int32) (espan : Nat → Int64) (eroot : Int32) (edig : Nat → Int32) (ehei : Nat → Int32) (eprio : Nat → Int32) (eby_ : Int32) (eopn : Nat → Int32) (ak' : Nat → Int64) (as' : Int32) (bk' : Nat → Int64) (bs' acts' why' work' aa' pp' : Int32) (mseed : Int32) (is' : Nat → Int32) (badAct badWhy maa mpp mwork : Int32) (trees' : Nat → Int64),
      L_X5_play_40 n k1 k2 k3 k4 bleft bright bparent bspan broot bdig bhei bprio bby_ bopn cleft cright cparent cspan croot cdig chei cprio cby_ copn ak (nI sd) bk bs (nI i) 0 (nI w) aa pp signs (nI np) (nI (pos i)) = some (j1, j2, j3, j4, dleft, dright, dparent, dspan, droot, ddig, dhei, dprio, dby_, dopn, eleft, eright, eparent, espan, eroot, edig, ehei, eprio, eby_, eopn, ak', as', bk', bs', acts', why', work', aa', pp') ∧
      L_X8_goActs_31 n (nI sd) is act which key other (nI a) (-6) (-6) aa pp mw isW trees (nI i) = some (mseed, is', badAct, badWhy, maa, mpp, mwork, trees') ∧ PB dprio dby_ ∧ PB eprio eby_ ∧ Fin2 a ak' as' acts' why' work' aa' pp' isW mseed is' badAct badWhy maa mpp mwork := by
  intro n
  induction n with
  | zero => intro i k1 k2 k3 k4 bleft bright bparent bspan broot bdig bhei bprio bby_ bopn cleft cright cparent cspan croot cdig chei cprio cby_ copn ak bk bs S sd w aa pp is mw trees h1 h2
            have := Dn_pos hD a (Nat.le_refl _)
            omega
  | succ n ih =>
    intro i k1 k2 k3 k4 bleft bright bparent bspan broot bdig bhei bprio bby_ bopn cleft cright cparent cspan croot cdig chei cprio cby_ copn ak bk bs S sd w aa pp is mw trees h1 h2 pb pc hsd hS haa hw
    have hap := Dn_pos hD a (Nat.le_refl _)
    rw [L_X5_play_40, L_X8_goActs_31]
    by_cases c : i = a
    · subst c
      rw [hpa, if_pos ((nI_leI (by omega) (by omega)).mpr (Nat.le_refl _)), if_pos ((nI_leI (by omega) (by omega)).mpr (Nat.le_refl _))]
      exact ⟨k1, k2, k3, k4, bleft, bright, bparent, bspan, broot, bdig, bhei, bprio, bby_, bopn, cleft, cright, cparent, cspan, croot, cdig, chei, cprio, cby_, copn, ak, nI sd, bk, bs, nI i, 0, nI w, aa, pp, nI sd, is, -6, -6, aa, pp, mw, trees, rfl, rfl, pb, pc, ⟨S, sd, hsd, rfl, rfl, hS⟩, rfl, rfl, hw, Or.inl ⟨rfl, rfl, rfl, rfl⟩⟩
    · obtain ⟨m, s, k, o, hm, hs, hk, ho, hlt, e1, e2, e3, e4, hR⟩ := hD.2 i (by omega)
      have hmono := Dn_lt hD (i := i + 1) (by omega)
      have f60 : (60 : Nat) < 2 ^ 31 := by decide
      have i60 : i < 60 := by omega
      obtain ⟨y, hy, w1, w2, hA⟩ := why_eq hS hsd hm hs hk ho (k := k)
      rw [if_neg (nI_ge (by omega) (by omega)), if_neg (nI_ge (by omega) (by omega)), if_neg (show ¬ (0 : Int32) ≤ -6 by decide), hR k1 k2 k3 k4, Option.bind_some]
      simp only [aget_nI i60 f60, Option.bind_some, e1, e2, e3, e4, w1, w2]
      have y0 : (nI y ≤ (0 : Int32)) = (y ≤ 0) := nI_le' (b := 0) (by omega) (by decide)
      have y1 : (nI y = (0 : Int32)) = (y = 0) := nI_eq' (b := 0) (by omega) (by decide)
      simp only [y0, y1]
      by_cases cy : y = 0
      · subst cy
        obtain ⟨ak', is', sd', tr', tb, ta, hsd', p1, hS', t1, t2, g1⟩ := goOne_eq hS hsd i60 e1 e2 e3 e4 hm hs hk ho (hA rfl) aa pp mw isW trees haa
        obtain ⟨bk', q1, q2⟩ := cpy4 (keys := ak) (bk := bk) (nI sd) bs
        have hB := SetR_keys hS q2
        obtain ⟨dleft, dright, dparent, dspan, droot, ddig, dhei, dprio, dby_, dopn, eleft, eright, eparent, espan, eroot, edig, ehei, eprio, eby_, eopn, r1, pd, pe⟩ := addWork_eq hB hS' hsd hsd' t1 t2 w bleft bright bparent bspan broot bdig bhei bprio bby_ bopn cleft cright cparent cspan croot cdig chei cprio cby_ copn pb pc
        have sq := seek_eq (ak := ak') (bk := bk') (acts := nI i) (aa, pp)
        rw [sk6 (aa, pp) (nI_n6 (by omega))] at sq
        have tneq : ∀ g o, g < 4 → o < 4 → tn ak' bk' g o = tn ak' ak g o := fun g o hg ho => by unfold tn al; rw [q2 g hg, q2 o ho]
        rw [tneq 0 1 (by omega) (by omega), tneq 0 2 (by omega) (by omega), tneq 0 3 (by omega) (by omega), tneq 1 2 (by omega) (by omega), tneq 1 3 (by omega) (by omega), tneq 2 3 (by omega) (by omega)] at sq
        have sq' : f_X5_seekAlike ak' bk' (nI i) aa pp = some (if new6 ak' ak = true ∧ aa = -6 then (nI i, nI (prn ak' ak)) else (aa, pp)) := sq
        have len : nI (pos i) + (if (1 : Int32) < nI (pos (i + 1) - pos i) then nI (pos (i + 1) - pos i) else 1) = nI (pos (i + 1)) := len_eq hlt (by omega)
        simp only [q1, p1, r1, sq', g1, len, nI_one, if_true, Nat.le_refl, Option.bind_some]
        refine ih (i + 1) _ _ _ _ dleft dright dparent dspan droot ddig dhei dprio dby_ dopn eleft eright eparent espan eroot edig ehei eprio eby_ eopn ak' bk' (nI sd) (nx S m s k o) sd' (w + cnt (Wk (nx S m s k o) tb ta) 200) _ _ is' _ tr' (by omega) (by omega) pd pe hsd' hS' ?_ ?_
        · by_cases z : new6 ak' ak = true ∧ aa = -6
          · rw [if_pos z]; exact Or.inr ⟨i, by omega, rfl⟩
          · rw [if_neg z]; exact haa
        · intro z; rw [if_neg z, hw z, nI_add]
      · have cy' : ¬ y ≤ 0 := by omega
        simp only [cy, cy', if_false, Option.bind_some]
        obtain ⟨n', rfl⟩ : ∃ n', n = n' + 1 := ⟨n - 1, by omega⟩
        have l2 : ∀ (l : Int32), L_X8_goActs_31 (n' + 1) (nI sd) is act which key other (nI a) (nI i) (nI y) aa pp mw isW trees l = some (nI sd, is, nI i, nI y, aa, pp, mw, trees) := fun l => by
          rw [L_X8_goActs_31, if_pos (show (0 : Int32) ≤ nI i from (nI_leI (a := 0) (by decide) (by omega)).mpr (by omega))]
          exact ite_self _
        rw [l2]
        exact ⟨_, _, _, _, bleft, bright, bparent, bspan, broot, bdig, bhei, bprio, bby_, bopn, cleft, cright, cparent, cspan, croot, cdig, chei, cprio, cby_, copn, ak, nI sd, bk, bs, nI i, nI y, nI w, aa, pp, nI sd, is, nI i, nI y, aa, pp, mw, trees, rfl, rfl, pb, pc, ⟨S, sd, hsd, rfl, rfl, hS⟩, rfl, rfl, hw, Or.inr ⟨i, y, i60, by omega, hy, rfl, rfl, rfl, rfl⟩⟩
end PlayLoop
