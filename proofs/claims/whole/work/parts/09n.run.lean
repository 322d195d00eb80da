section RunPart
theorem all_eq {S : Nat → Nat → Bool} {keys : Nat → Int64} {is : Nat → Int32} (h : SetR S keys is) : f_X6_countAll keys = some (nI (cnt (S 0) 50) + nI (cnt (S 1) 50) + nI (cnt (S 2) 50) + nI (cnt (S 3) 50)) := by
  have st : ∀ n e c, e < 4 → L_X6_countAll_4 (n + 1) keys (nI c) (nI e) = L_X6_countAll_4 n keys (nI (c + cnt (S e) 50)) (nI (e + 1)) := by
    intro n e c he
    rw [L_X6_countAll_4, lit32 4, if_neg (fun q => absurd ((nI_leI (by omega) (by omega)).mp q) (by omega)), aget_nI he (by decide), Option.bind_some, count_eq, Option.bind_some, pcx_keys h he, nI_add, nI_one]
  have en : ∀ n c, L_X6_countAll_4 (n + 1) keys (nI c) (nI 4) = some (nI c) := by
    intro n c
    rw [L_X6_countAll_4, lit32 4, if_pos ((nI_leI (by omega) (by omega)).mpr (Nat.le_refl _))]
  have e : L_X6_countAll_4 20000 keys (0 : Int32) (0 : Int32) = some (nI (0 + cnt (S 0) 50 + cnt (S 1) 50 + cnt (S 2) 50 + cnt (S 3) 50)) :=
    (st 19999 0 0 (by decide)).trans ((st 19998 1 _ (by decide)).trans ((st 19997 2 _ (by decide)).trans ((st 19996 3 _ (by decide)).trans (en 19995 _))))
  unfold f_X6_countAll
  rw [e, Option.bind_some, nI_add, nI_add, nI_add, Nat.zero_add]
theorem run_loop {L : Nat} (hL : L < 100) : ∀ n i x (keys : Nat → Int64) (is : Nat → Int32) (S : Nat → Nat → Bool) (sd : Nat) (k1 k2 k3 k4 : Int32), i ≤ L → L < i + n → x < 65537 → sd < 10000 → SetR S keys is → ∃ (keys' : Nat → Int64) (is' : Nat → Int32) (S' : Nat → Nat → Bool) (sd' : Nat) (j1 j2 j3 j4 : Int32), sd' < 10000 ∧ SetR S' keys' is' ∧ L_X7_run_47 n keys (nI sd) k1 k2 k3 k4 (nI L) (nI x) (nI i) = some (keys', nI sd', j1, j2, j3, j4) ∧ L_X8_run_49 n (nI sd) is (nI L) (nI x) (nI i) = some (nI sd', is') := by
  intro n
  induction n with
  | zero => intro i x keys is S sd k1 k2 k3 k4 h1 h2; omega
  | succ n ih =>
    intro i x keys is S sd k1 k2 k3 k4 h1 h2 hx hsd hS
    rw [L_X7_run_47, L_X8_run_49]
    by_cases c : i = L
    · subst c
      have z : nI i ≤ nI i := (nI_leI (by omega) (by omega)).mpr (Nat.le_refl _)
      rw [if_pos z, if_pos z]
      exact ⟨keys, is, S, sd, k1, k2, k3, k4, hsd, hS, rfl, rfl⟩
    · have z : ¬ nI L ≤ nI i := fun q => absurd ((nI_leI (by omega) (by omega)).mp q) (by omega)
      rw [if_neg z, if_neg z]
      have X1 : (75 : Int32) * nI x + (74 : Int32) - ((75 : Int32) * nI x + (74 : Int32)) / (65537 : Int32) * (65537 : Int32) = nI ((75 * x + 74) % 65537) := by
        rw [lit32 75, lit32 74, lit32 65537, pk_mul, nI_add]; exact pk_rem (by omega) (by decide) (by decide)
      have X2 : ((75 : Int64) * (nI x).toInt64 + (74 : Int64) - ((75 : Int64) * (nI x).toInt64 + (74 : Int64)) / (65537 : Int64) * (65537 : Int64)).toInt32 = nI ((75 * x + 74) % 65537) := by
        rw [nI_l (by omega), litL 75, litL 74, litL 65537, lN_mul, lN_add, pk_lRem (by omega) (by decide) (by decide), lN_i]
      simp only [X1, X2]
      have hy : (75 * x + 74) % 65537 < 65537 := Nat.mod_lt _ (by decide)
      generalize (75 * x + 74) % 65537 = y at hy ⊢
      have R8 : nI y - nI y / (8 : Int32) * (8 : Int32) = nI (y % 8) := pk_rem (d := 8) (by omega) (by decide) (by decide)
      have D8 : nI y / (8 : Int32) = nI (y / 8) := pk_div (d := 8) (by omega) (by decide) (by decide)
      simp only [R8]
      simp only [D8]
      obtain ⟨m, s, k, o, kx, ox, hm, hs, hk, ho, hox, hkk, hoo, e1, e2⟩ := draw_c hy rfl rfl
      obtain ⟨w, hw, w1, w2, w3⟩ := why_eq hS hsd hm hs hk ho
      obtain ⟨i1, i2⟩ := irr (keys := keys) (sd := nI sd) hm hs ho hox hkk hoo
      simp only [e1, e2, Drn, Option.bind_some, i1, i2, w1, w2]
      by_cases w0 : w = 0
      · subst w0
        obtain ⟨keys', is', sd', hs', p1, p2, hS'⟩ := act_eq hS hsd m hm hs hk ho (w3 rfl)
        simp only [mq0_0, if_true, p1, p2, Option.bind_some, nI_one]
        exact ih (i + 1) y keys' is' _ sd' _ _ _ _ (by omega) (by omega) hy hs' hS'
      · have wn : (nI w = (0 : Int32)) = False := nI_ne (b := 0) (by omega) (by decide) w0
        simp only [wn, if_false, Option.bind_some, nI_one]
        exact ih (i + 1) y keys is S sd _ _ _ _ (by omega) (by omega) hy hsd hS
theorem run_eq {keys : Nat → Int64} {seed cs : Int32} {sds : Nat → Int64} {mseed0 ms : Int32} {is so st : Nat → Int32} (hC : Core keys seed cs sds mseed0 ms is so st) (dk : Nat → Int64) (ds k1 k2 k3 k4 : Int32) (bleft : Nat → Int32) (bright : Nat → Int32) (bparent : Nat → Int32) (bspan : Nat → Int64) (broot : Int32) (bdig : Nat → Int32) (bhei : Nat → Int32) (bprio : Nat → Int32) (bby_ : Int32) (bopn : Nat → Int32) (pb : PB bprio bby_) {order : Nat → Int32} (hO : OrdOK order) (mdig : Nat → Int64) (tall had : Nat → Int32) (v1 v2 v3 : Int32) : ∃ R1 R2, f_X7_run keys seed dk ds k1 k2 k3 k4 bleft bright bparent bspan broot bdig bhei bprio bby_ bopn v1 v2 v3 = some R1 ∧ f_X8_run mseed0 is order mdig tall had v1 v2 v3 = some R2 ∧ R1.1 = R2.1 ∧ Core keys seed cs sds R2.2.1 ms R2.2.2.1 so st ∧ PB (R1.2.2.2.2.2.2.2.2.2.2.2.2.2.2.1) (R1.2.2.2.2.2.2.2.2.2.2.2.2.2.2.2.1) ∧ OrdOK (R2.2.2.2.1) := by
  unfold f_X7_run f_X8_run
  have l1 : (1 : Int32).toInt = 1 := rfl
  have l99 : (99 : Int32).toInt = 99 := rfl
  have l0 : (0 : Int32).toInt = 0 := rfl
  have l2 : (2 : Int32).toInt = 2 := rfl
  rcases ixc v1 10000 (by decide) with ⟨x, hx, rfl⟩ | hv
  · have i1 : f_X8_in (nI x).toInt64 (0 : Int64) (9999 : Int64) = some 1 := in_t x 0 9999 (by omega) (by omega) (by decide)
    simp only [isSeed_in hx, i1, Option.bind_some, n10e, if_false]
    rw [in32 v2 1 99 (a := 1) (b := 99) rfl rfl, in32 v3 0 2 (a := 0) (b := 2) rfl rfl]
    by_cases c2 : 1 ≤ v2.toInt ∧ v2.toInt ≤ 99
    · rw [if_pos c2]
      by_cases c3 : 0 ≤ v3.toInt ∧ v3.toInt ≤ 2
      · rw [if_pos c3]
        rcases ixc v2 100 (by decide) with ⟨L, hL, rfl⟩ | hv2
        · have n1 : ¬ nI L < (1 : Int32) := by rw [l32, l1]; omega
          have n2 : ¬ (99 : Int32) < nI L := by rw [l32, l99]; omega
          have n3 : ¬ v3 < (0 : Int32) := by rw [l32, l0]; omega
          have n4 : v3 ≤ (2 : Int32) := by rw [le32, l2]; omega
          obtain ⟨S, sd, hsd, rfl, rfl, hS, hG⟩ := id hC
          obtain ⟨had', g1, g2, g3⟩ := keep_eq (nI sd) is had
          obtain ⟨k', q1, q2⟩ := cpy4 (keys := keys) (bk := dk) (nI sd) ds
          obtain ⟨keys', is', S', sd', j1, j2, j3, j4, hs', hS', r1, r2⟩ := run_loop hL 20000 0 x k' is S sd k1 k2 k3 k4 (by omega) (by omega) (by omega) hsd (SetR_keys hS q2)
          have r1' : L_X7_run_47 20000 k' (nI sd) k1 k2 k3 k4 (nI L) (nI x) (0 : Int32) = some (keys', nI sd', j1, j2, j3, j4) := r1
          have r2' : L_X8_run_49 20000 (nI sd) is (nI L) (nI x) (0 : Int32) = some (nI sd', is') := r2
          have m0 : f_X8_many is' (0 : Int32) = some (nI (cnt (S' 0) 50)) := many_eq (hS' 0 (by decide)).2.1 (by decide)
          have m1 : f_X8_many is' (1 : Int32) = some (nI (cnt (S' 1) 50)) := many_eq (hS' 1 (by decide)).2.1 (by decide)
          have m2 : f_X8_many is' (2 : Int32) = some (nI (cnt (S' 2) 50)) := many_eq (hS' 2 (by decide)).2.1 (by decide)
          have m3 : f_X8_many is' (3 : Int32) = some (nI (cnt (S' 3) 50)) := many_eq (hS' 3 (by decide)).2.1 (by decide)
          simp only [Option.bind_some, n10e, n1, n2, n3, n4, if_true, if_false, q1, g1, r1', r2', m0, m1, m2, m3]
          have bq := fun r => back_eq (nI sd') is' had' r
          rcases v012 c3 with rfl | rfl | rfl
          · obtain ⟨l', r', pa', sp', ro', dg', he', pr', op', e1, hpr⟩ := digest7_eq hs' pb (fun j hj => bx_key hS' (g := 0) (by decide) hj) bleft bright bparent bspan broot bdig bhei bopn
            obtain ⟨order', dig', tall', e2, hO', -⟩ := m_digest (g := 0) (hS' 0 (by decide)).2.1 (by decide) hs' hO mdig tall
            have a0 : aget 4 keys' (0 : Int32) = some (keys' 0) := aget_nI (j := 0) (by decide) (by decide)
            have e2' : f_X8_digestOf (nI sd') is' order mdig tall (0 : Int32) (0 : Int32) (49 : Int32) = some (nI (dg sd' (S' 0) 0 50), order', dig', tall') := e2
            obtain ⟨is'', b1, b2⟩ := bq (nI (dg sd' (S' 0) 0 50))
            have hC' : Core keys (nI sd) cs sds (had' 200) ms is'' so st := by rw [g3]; exact Core_back hC (fun j hj => by rw [b2 j hj, g2 j hj])
            simp only [q_0_0, if_true, a0, e1, e2', b1, Option.bind_some]
            exact ⟨_, _, rfl, rfl, rfl, hC', hpr, hO'⟩
          · obtain ⟨is'', b1, b2⟩ := bq (nI (cnt (S' 0) 50) + nI (cnt (S' 1) 50) + nI (cnt (S' 2) 50) + nI (cnt (S' 3) 50))
            have hC' : Core keys (nI sd) cs sds (had' 200) ms is'' so st := by rw [g3]; exact Core_back hC (fun j hj => by rw [b2 j hj, g2 j hj])
            simp only [q_1_0, q_1_1, if_true, if_false, all_eq hS', b1, Option.bind_some]
            exact ⟨_, _, rfl, rfl, rfl, hC', pb, hO⟩
          · obtain ⟨is'', b1, b2⟩ := bq (nI sd')
            have hC' : Core keys (nI sd) cs sds (had' 200) ms is'' so st := by rw [g3]; exact Core_back hC (fun j hj => by rw [b2 j hj, g2 j hj])
            simp only [q_2_0, q_2_1, if_false, b1, Option.bind_some]
            exact ⟨_, _, rfl, rfl, rfl, hC', pb, hO⟩
        · exfalso; omega
      · rw [if_neg c3]
        have n1 : ¬ v2 < (1 : Int32) := by rw [l32, l1]; omega
        have n2 : ¬ (99 : Int32) < v2 := by rw [l32, l99]; omega
        simp only [Option.bind_some, n10e, n1, n2, if_true, if_false]
        by_cases c4 : v3 < (0 : Int32)
        · rw [if_pos c4]; exact ⟨_, _, rfl, rfl, rfl, hC, pb, hO⟩
        · have c5 : ¬ v3 ≤ (2 : Int32) := by rw [le32, l2]; rw [l32, l0] at c4; omega
          rw [if_neg c4, if_neg c5]; exact ⟨_, _, rfl, rfl, rfl, hC, pb, hO⟩
    · rw [if_neg c2]
      simp only [Option.bind_some, if_true]
      by_cases c4 : v2 < (1 : Int32)
      · rw [if_pos c4]; exact ⟨_, _, rfl, rfl, rfl, hC, pb, hO⟩
      · have c5 : (99 : Int32) < v2 := by rw [l32, l99]; rw [l32, l1] at c4; omega
        rw [if_neg c4, if_pos c5]; exact ⟨_, _, rfl, rfl, rfl, hC, pb, hO⟩
  · have i1 : f_X8_in v1.toInt64 (0 : Int64) (9999 : Int64) = some 0 := in_f v1 0 9999 (by omega) (by decide) (by decide)
    simp only [isSeed_out (show v1.toInt < 0 ∨ (10000 : Int) ≤ v1.toInt by omega), i1, Option.bind_some, if_true]
    exact ⟨_, _, rfl, rfl, rfl, hC, pb, hO⟩
end RunPart
