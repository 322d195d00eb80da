theorem n10e : ((1 : Int32) = 0) = False := propext ⟨by decide, False.elim⟩
theorem b01f : b01 false = 0 := rfl
theorem b01t : b01 true = 1 := rfl
section Simple2
variable {S : Nat → Nat → Bool} {keys : Nat → Int64} {is : Nat → Int32}
/-- the count that put answers, and the relation behind it -/
theorem put_fin (h : SetR S keys is) {g j : Nat} (hg : g < 4) (hj : j < 50) (b : Bool) (hc : cnt (setS S g j b g) 50 ≤ 40) {x : Int64} (hx : ∀ k, k < 64 → bx x k = if k = j then b else bx (keys g) k) :
    (Option.bind (asetL 4 keys (nI g) x) (fun f5 => Option.bind (aget 4 f5 (nI g)) (fun v6 => Option.bind (f_X7_count v6) (fun x7 => some (x7, f5))))) = some (nI (cnt (setS S g j b g) 50), vp_updL keys g x) ∧
    (Option.bind (aset 200 is ((50 : Int32) * nI g + nI j) (b01 b)) (fun f3 => Option.bind (f_X8_many f3 (nI g)) (fun x4 => some (x4, f3)))) = some (nI (cnt (setS S g j b g) 50), upd is (50 * g + j) (b01 b)) ∧ SetR (setS S g j b) (vp_updL keys g x) (upd is (50 * g + j) (b01 b)) := by
  have hR := SetR_set h hg hj b hc hx
  refine ⟨?_, ?_, hR⟩
  · rw [asetL_nI hg (by decide), Option.bind_some, aget_nI hg (by decide), Option.bind_some, count_eq, Option.bind_some, pcx_keys hR hg]
  · rw [lit32 50, pk_mul, nI_add, aset_nI (by omega) (by decide), Option.bind_some, many_eq (hR g hg).2.1 hg, Option.bind_some]
theorem put_eq (h : SetR S keys is) (v1 v2 v3 : Int32) (h3 : v3 = 0 ∨ v3 = 1) : ∃ r keys' is' S', f_X7_put keys v1 v2 v3 = some (r, keys') ∧ f_X8_put is v1 v2 v3 = some (r, is') ∧ SetR S' keys' is' := by
  unfold f_X7_put f_X8_put
  rcases ixc v1 4 (by decide) with ⟨g, hg, rfl⟩ | hv
  · rcases ixc v2 50 (by decide) with ⟨j, hj, rfl⟩ | hv
    · simp only [isSet_in hg, mSet_in hg, isKey_in hj, mKey_in hj, Option.bind_some, n10e, if_false]
      have hbits := put_bits (keys g) hj
      have h40 := (h g hg).2.2
      rcases h3 with rfl | rfl
      · simp only [eq_self, if_true, aget_nI hg (show 4 < 2 ^ 31 by decide), Option.bind_some, bit_eq]
        have hc := cnt_setS S (g := g) hj false
        have hc2 : cnt (setS S g j false g) 50 ≤ 40 := by
          have : (b01 false).toNatClampNeg = 0 := rfl
          omega
        obtain ⟨e1, e2, hR⟩ := put_fin h hg hj false hc2 hbits.2
        simp only [aget_nI hg (show 4 < 2 ^ 31 by decide), Option.bind_some] at e1
        exact ⟨_, _, _, _, e1, e2, hR⟩
      · simp only [n10e, if_false, aget_nI hg (show 4 < 2 ^ 31 by decide), Option.bind_some, isIn_eq (keys g) (show j < 64 by omega), bx_key h hg hj, has_eq (h g hg).2.1 hg hj, bit_eq, count_eq, pcx_keys h hg, many_eq (h g hg).2.1 hg]
        have hc := cnt_setS S (g := g) hj true
        have t1 : (b01 true).toNatClampNeg = 1 := rfl
        have t0 : (b01 false).toNatClampNeg = 0 := rfl
        cases hS : S g j
        · simp only [b01f, eq_self, if_true]
          by_cases c : cnt (S g) 50 = 40
          · rw [c, if_neg (by decide), if_pos (show nI 40 = (40 : Int32) from rfl)]
            exact ⟨_, _, _, S, rfl, rfl, h⟩
          · rw [lit32 40, if_pos ((nI_ltI (by omega) (by omega)).mpr (by omega)), if_neg (fun q => c ((nI_eq (by omega) (by omega)).mp q))]
            have hc2 : cnt (setS S g j true g) 50 ≤ 40 := by rw [hS] at hc; omega
            obtain ⟨e1, e2, hR⟩ := put_fin h hg hj true hc2 hbits.1
            simp only [aget_nI hg (show 4 < 2 ^ 31 by decide), count_eq, Option.bind_some] at e1
            exact ⟨_, _, _, _, e1, e2, hR⟩
        · simp only [b01t, n10e, if_false]
          have hc2 : cnt (setS S g j true g) 50 ≤ 40 := by rw [hS] at hc; omega
          obtain ⟨e1, e2, hR⟩ := put_fin h hg hj true hc2 hbits.1
          simp only [aget_nI hg (show 4 < 2 ^ 31 by decide), count_eq, Option.bind_some] at e1
          exact ⟨_, _, _, _, e1, e2, hR⟩
    · simp only [isSet_in hg, mSet_in hg, isKey_out hv, mKey_out hv, Option.bind_some, n10e, if_false, eq_self, if_true]
      exact ⟨_, _, _, S, rfl, rfl, h⟩
  · simp only [isSet_out hv, mSet_out hv, Option.bind_some, eq_self, if_true]
    exact ⟨_, _, _, S, rfl, rfl, h⟩
theorem seed_eq {sd : Nat} (hs : sd < 10000) (v : Int32) : ∃ (r : Int32) (sd' : Nat), sd' < 10000 ∧ f_X7_seed (nI sd) v = some (r, nI sd') ∧ f_X8_seed (nI sd) v = some (r, nI sd') := by
  unfold f_X7_seed f_X8_seed
  rcases ixc v 10000 (by decide) with ⟨j, hj, rfl⟩ | hv
  · rw [isSeed_in hj, in32 (nI j) 0 9999 (a := 0) (b := 9999) rfl rfl, nI_toInt (by omega), if_pos (show (0 : Int) ≤ (j : Int) ∧ (j : Int) ≤ 9999 by omega)]
    simp only [Option.bind_some, n10e, if_false]
    exact ⟨_, j, hj, rfl, rfl⟩
  · rw [isSeed_out hv, in32 v 0 9999 (a := 0) (b := 9999) rfl rfl, if_neg (show ¬ ((0 : Int) ≤ v.toInt ∧ v.toInt ≤ 9999) by omega)]
    simp only [Option.bind_some, eq_self, if_true]
    exact ⟨_, sd, hs, rfl, rfl⟩
theorem say_eq {signs pad : Nat → Int32} {count padMany : Int32} (h : PadR signs count pad padMany) (v : Int32) : ∃ r signs' count' pad' padMany', f_X7_say signs count v = some (r, signs', count') ∧ f_X8_say pad padMany v = some (r, pad', padMany') ∧ PadR signs' count' pad' padMany' := by
  obtain ⟨np, hnp, rfl, rfl, hp⟩ := id h
  unfold f_X7_say f_X8_say
  rw [in32 v 33 126 (a := 33) (b := 126) rfl rfl, Option.bind_some]
  simp only [l32, le32]
  have e33 : (33 : Int32).toInt = 33 := rfl
  have e126 : (126 : Int32).toInt = 126 := rfl
  rw [e33, e126]
  by_cases c1 : v.toInt < 33
  · rw [if_pos c1, if_neg (show ¬ ((33 : Int) ≤ v.toInt ∧ v.toInt ≤ 126) by omega), if_pos rfl]
    exact ⟨_, _, _, _, _, rfl, rfl, h⟩
  · rw [if_neg c1]
    by_cases c2 : v.toInt ≤ 126
    · rw [if_pos c2, if_pos (show (33 : Int) ≤ v.toInt ∧ v.toInt ≤ 126 by omega), if_neg (show ¬ (1 : Int32) = 0 by decide)]
      obtain ⟨c, hc, rfl⟩ : ∃ c, c < 127 ∧ v = nI c := by
        rcases ixc v 127 (by decide) with q | q
        · exact q
        · omega
      have hct : (nI c).toInt = (c : Int) := nI_toInt (by omega)
      rw [hct] at c1
      unfold f_X2_write
      by_cases c3 : np = 60
      · subst c3
        rw [if_neg (by decide), if_pos (show nI 60 = (60 : Int32) from rfl), Option.bind_some, if_pos rfl]
        exact ⟨_, _, _, _, _, rfl, rfl, h⟩
      · rw [lit32 60, if_pos ((nI_ltI (by omega) (by omega)).mpr (by omega)), if_neg (fun q => c3 ((nI_eq (by omega) (by omega)).mp q)), aset_nI (by omega) (by decide), aset_nI (by omega) (by decide), Option.bind_some, Option.bind_some, Option.bind_some, if_neg (show ¬ (1 : Int32) = 0 by decide), nI_one]
        refine ⟨_, _, _, _, _, rfl, rfl, np + 1, by omega, rfl, rfl, fun i hi => ?_⟩
        by_cases z : i = np
        · subst z; exact ⟨c, by omega, by omega, upd_s _ _ _, upd_s _ _ _⟩
        · obtain ⟨c', q1, q2, q3, q4⟩ := hp i (by omega)
          exact ⟨c', q1, q2, (upd_n _ _ z).trans q3, (upd_n _ _ z).trans q4⟩
    · rw [if_neg c2, if_neg (show ¬ ((33 : Int) ≤ v.toInt ∧ v.toInt ≤ 126) by omega), if_pos rfl]
      exact ⟨_, _, _, _, _, rfl, rfl, h⟩
theorem wipe_eq {signs pad : Nat → Int32} {count padMany : Int32} (h : PadR signs count pad padMany) : ∃ r count' padMany', f_X7_wipe count = some (r, count') ∧ f_X8_wipe padMany = some (r, padMany') ∧ PadR signs count' pad padMany' := by
  obtain ⟨np, hnp, rfl, rfl, hp⟩ := h
  exact ⟨nI np, nI 0, nI 0, rfl, rfl, 0, by omega, rfl, rfl, fun i hi => absurd hi (by omega)⟩
/-! sights -/
theorem fill_loop : ∀ n k (f : Nat → Int64), k ≤ 157 → 158 ≤ k + n → (∀ w, w < k → f w = -1) → ∃ f', L_X3_fill_2 n f (nI k) = some f' ∧ ∀ w, w < 157 → f' w = -1 := by
  intro n
  induction n with
  | zero => intro k f h1 h2; omega
  | succ n ih =>
    intro k f h1 h2 h
    rw [L_X3_fill_2]
    by_cases c : k = 157
    · subst c; rw [if_pos (by decide)]; exact ⟨f, rfl, h⟩
    · rw [lit32 157, if_neg (nI_ge (by omega) (by omega)), asetL_nI (by omega) (by decide), Option.bind_some, nI_one]
      refine ih (k + 1) _ (by omega) (by omega) (fun w hw => ?_)
      by_cases z : w = k
      · rw [z, updL_s]
      · rw [updL_n _ _ z]; exact h w (by omega)
theorem bx_65535 : ∀ i, i < 64 → bx 65535 i = decide (i < 16) := by decide +kernel
theorem fill_eq (f : Nat → Int64) : ∃ sd, f_X3_fill f = some sd ∧ ∀ w, w < 157 → ∀ i, i < 64 → (bx (sd w) i = true ↔ 64 * w + i < 10000) := by
  obtain ⟨f', e, h⟩ := fill_loop 20000 0 f (by omega) (by omega) (fun w hw => absurd hw (by omega))
  have e' : L_X3_fill_2 20000 f (0 : Int32) = some f' := e
  unfold f_X3_fill
  rw [e', Option.bind_some, lit32 156, asetL_nI (by omega) (by decide), Option.bind_some]
  refine ⟨_, rfl, fun w hw i hi => ?_⟩
  by_cases z : w = 156
  · rw [z, updL_s, bx_65535 i hi]; simp; omega
  · rw [updL_n _ _ z, h w hw, bx_m1 i hi]; simp; omega
theorem SgtR_none {sd : Nat → Int64} (h : ∀ w, w < 157 → ∀ i, i < 64 → (bx (sd w) i = true ↔ 64 * w + i < 10000)) (so st : Nat → Int32) : SgtR 0 sd 0 so st := by
  refine ⟨0, by omega, rfl, rfl, fun e he => absurd he (by omega), fun w hw i hi => ?_⟩
  rw [h w hw i hi]
  exact ⟨fun q => ⟨q, fun e he => absurd he (by omega)⟩, fun q => q.1⟩
theorem forget_eq {cs ms : Int32} {sds : Nat → Int64} {so st : Nat → Int32} (h : SgtR cs sds ms so st) : ∃ r cs' sds' ms', f_X7_forget cs sds = some (r, cs', sds') ∧ f_X8_forget ms = some (r, ms') ∧ SgtR cs' sds' ms' so st := by
  obtain ⟨ns, hn, rfl, rfl, h1, h2⟩ := h
  obtain ⟨sd, e, h3⟩ := fill_eq sds
  refine ⟨nI ns, 0, sd, 0, ?_, rfl, SgtR_none h3 so st⟩
  unfold f_X7_forget f_X3_clear
  rw [e]; rfl
theorem dv64 {v : Nat} (hv : v < 10000) : nI v / (64 : Int32) = nI (v / 64) ∧ nI v - nI v / (64 : Int32) * (64 : Int32) = nI (v % 64) := ⟨pk_div (by omega) (by decide) (by decide), rem32 (by omega) (by decide) (by decide)⟩
theorem add_loop {a b : Nat} (ha : a < 50) (hb : b < 50) (f0 : Nat → Int64) : ∀ n k (f : Nat → Int64), k ≤ 10000 → 10001 ≤ k + n → (∀ w, w < 157 → ∀ i, i < 64 → (bx (f w) i = true ↔ (bx (f0 w) i = true ∧ (64 * w + i < k → rk (64 * w + i) a b)))) → ∃ f', L_X3_add_23 n f (nI a) (nI b) (nI k) = some f' ∧ (∀ w, w < 157 → ∀ i, i < 64 → (bx (f' w) i = true ↔ (bx (f0 w) i = true ∧ (64 * w + i < 10000 → rk (64 * w + i) a b)))) := by
  intro n
  induction n with
  | zero => intro k f h1 h2; omega
  | succ n ih =>
    intro k f h1 h2 h
    rw [L_X3_add_23]
    by_cases c : k = 10000
    · subst c; rw [if_pos (by decide)]; exact ⟨f, rfl, h⟩
    · have hk : k < 10000 := by omega
      have hd := dv64 hk
      rw [lit32 10000, if_neg (nI_ge (by omega) (by omega)), ranks_eq hk ha hb, Option.bind_some, nI_one]
      cases hr : rkB k a b
      · rw [if_pos (show b01 false = 0 from rfl), hd.2, hd.1, aget_nI (by omega) (by decide), Option.bind_some, asetL_nI (by omega) (by decide), Option.bind_some]
        refine ih (k + 1) _ (by omega) (by omega) (fun w hw i hi => ?_)
        by_cases z : w = k / 64
        · subst z
          rw [updL_s, bx_and, bx_not _ hi]
          have hbit : bx ((1 : Int64) <<< ((nI (k % 64)).toInt64 &&& 63)) i = decide (i = k % 64) := bx_bit (by omega) hi
          rw [hbit]
          by_cases z2 : i = k % 64
          · have hk2 : 64 * (k / 64) + i = k := by omega
            rw [hk2, z2]
            simp only [decide_true, Bool.not_true, Bool.and_false]
            constructor
            · intro q; exact absurd q (by decide)
            · intro q
              have := rkB_iff.mpr (q.2 (by omega))
              rw [hr] at this; exact absurd this (by decide)
          · rw [show (bx (f (k / 64)) i && !decide (i = k % 64)) = bx (f (k / 64)) i by simp [z2], h _ hw i hi]
            constructor
            · intro q; exact ⟨q.1, fun q2 => q.2 (by omega)⟩
            · intro q; exact ⟨q.1, fun q2 => q.2 (by omega)⟩
        · rw [updL_n _ _ z, h w hw i hi]
          constructor
          · intro q; exact ⟨q.1, fun q2 => q.2 (by omega)⟩
          · intro q; exact ⟨q.1, fun q2 => q.2 (by omega)⟩
      · rw [if_neg (show ¬ b01 true = 0 by decide)]
        refine ih (k + 1) f (by omega) (by omega) (fun w hw i hi => ?_)
        rw [h w hw i hi]
        constructor
        · intro q
          refine ⟨q.1, fun q2 => ?_⟩
          by_cases z : 64 * w + i = k
          · rw [z]; exact rkB_iff.mp hr
          · exact q.2 (by omega)
        · intro q; exact ⟨q.1, fun q2 => q.2 (by omega)⟩
theorem nI_inj {a b : Nat} (ha : a < 2 ^ 31) (hb : b < 2 ^ 31) (h : nI a = nI b) : a = b := (nI_eq ha hb).mp h
theorem above_eq {cs ms : Int32} {sds : Nat → Int64} {so st : Nat → Int32} (h : SgtR cs sds ms so st) (v1 v2 : Int32) : ∃ r cs' sds' so' st' ms', f_X7_above cs sds v1 v2 = some (r, cs', sds') ∧ f_X8_above so st ms v1 v2 = some (r, so', st', ms') ∧ SgtR cs' sds' ms' so' st' := by
  unfold f_X7_above f_X8_above
  rcases ixc v1 50 (by decide) with ⟨a, ha, rfl⟩ | hv
  · simp only [isKey_in ha, mKey_in ha, Option.bind_some, n10e, if_false]
    rcases ixc v2 50 (by decide) with ⟨b, hb, rfl⟩ | hv
    · simp only [isKey_in hb, mKey_in hb, Option.bind_some, n10e, if_false]
      by_cases hab : nI a = nI b
      · rw [if_pos hab, if_pos hab]; exact ⟨_, _, _, _, _, _, rfl, rfl, h⟩
      · rw [if_neg hab, if_neg hab]
        obtain ⟨ns, hn, rfl, rfl, h1, h2⟩ := id h
        unfold f_X3_add
        by_cases c : ns = 8
        · subst c
          rw [if_neg (by decide), if_pos (show nI 8 = (8 : Int32) from rfl), Option.bind_some, if_pos rfl]
          exact ⟨_, _, _, _, _, _, rfl, rfl, h⟩
        · obtain ⟨f', e, hf⟩ := add_loop ha hb sds 20000 0 sds (by omega) (by omega) (fun w hw i hi => ⟨fun q => ⟨q, fun q2 => absurd q2 (by omega)⟩, fun q => q.1⟩)
          have e' : L_X3_add_23 20000 sds (nI a) (nI b) (0 : Int32) = some f' := e
          rw [lit32 8, if_pos ((nI_ltI (by omega) (by omega)).mpr (by omega)), if_neg (fun q => c (nI_inj (by omega) (by omega) q)), e', Option.bind_some, Option.bind_some, if_neg (show ¬ (1 : Int32) = 0 by decide), aset_nI (by omega) (by decide), Option.bind_some, aset_nI (by omega) (by decide), Option.bind_some, nI_one]
          refine ⟨_, _, _, _, _, _, rfl, rfl, ns + 1, by omega, rfl, rfl, fun e he => ?_, fun w hw i hi => ?_⟩
          · by_cases z : e = ns
            · subst z; exact ⟨a, b, ha, hb, upd_s _ _ _, upd_s _ _ _⟩
            · rw [upd_n _ _ z, upd_n _ _ z]; exact h1 e (by omega)
          · rw [hf w hw i hi, h2 w hw i hi]
            constructor
            · intro ⟨⟨q1, q2⟩, q3⟩
              refine ⟨q1, fun e he x y hx hy hx5 hy5 => ?_⟩
              by_cases z : e = ns
              · subst z
                rw [upd_s] at hx hy
                rw [← nI_inj (by omega) (by omega) hx, ← nI_inj (by omega) (by omega) hy]
                exact q3 q1
              · rw [upd_n _ _ z] at hx hy
                exact q2 e (by omega) x y hx hy hx5 hy5
            · intro ⟨q1, q2⟩
              refine ⟨⟨q1, fun e he x y hx hy hx5 hy5 => q2 e (by omega) x y (by rw [upd_n _ _ (by omega)]; exact hx) (by rw [upd_n _ _ (by omega)]; exact hy) hx5 hy5⟩, fun _ => q2 ns (by omega) a b (upd_s _ _ _) (upd_s _ _ _) ha hb⟩
    · simp only [isKey_out hv, mKey_out hv, Option.bind_some, eq_self, if_true]; exact ⟨_, _, _, _, _, _, rfl, rfl, h⟩
  · simp only [isKey_out hv, mKey_out hv, Option.bind_some, eq_self, if_true]; exact ⟨_, _, _, _, _, _, rfl, rfl, h⟩
end Simple2
