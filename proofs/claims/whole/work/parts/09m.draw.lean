section DrawPart
theorem rq {a d : Nat} (ha : a < 2 ^ 31) (h0 : 0 < d) (hd : d < 2 ^ 31) : nI a - nI (a / d) * nI d = nI (a % d) := by rw [← pk_div ha h0 hd]; exact pk_rem ha h0 hd
def Drn (seed : Int32) (is : Nat → Int32) (m s k o : Nat) : Option (Int32 × (Nat → Int32)) := Option.bind (f_X8_whyNot seed is (nI m) (nI s) (nI k) (nI o)) (fun x5 => if x5 = (0 : Int32) then Option.bind (f_X8_happen seed is (nI m) (nI s) (nI k) (nI o)) (fun x6 => some (x6.1, x6.2)) else some (seed, is))
theorem dl3_0 : ((3 : Int32) ≤ nI 0) = False := eq_false (by decide)
theorem dl5_0 : ((5 : Int32) ≤ nI 0) = False := eq_false (by decide)
theorem dl3_1 : ((3 : Int32) ≤ nI 1) = False := eq_false (by decide)
theorem dl5_1 : ((5 : Int32) ≤ nI 1) = False := eq_false (by decide)
theorem dl3_2 : ((3 : Int32) ≤ nI 2) = False := eq_false (by decide)
theorem dl5_2 : ((5 : Int32) ≤ nI 2) = False := eq_false (by decide)
theorem dl3_3 : ((3 : Int32) ≤ nI 3) = True := eq_true (by decide)
theorem dl5_3 : ((5 : Int32) ≤ nI 3) = False := eq_false (by decide)
theorem dl3_4 : ((3 : Int32) ≤ nI 4) = True := eq_true (by decide)
theorem dl5_4 : ((5 : Int32) ≤ nI 4) = False := eq_false (by decide)
theorem dl3_5 : ((3 : Int32) ≤ nI 5) = True := eq_true (by decide)
theorem dl5_5 : ((5 : Int32) ≤ nI 5) = True := eq_true (by decide)
theorem dl3_6 : ((3 : Int32) ≤ nI 6) = True := eq_true (by decide)
theorem dl5_6 : ((5 : Int32) ≤ nI 6) = True := eq_true (by decide)
theorem dl3_7 : ((3 : Int32) ≤ nI 7) = True := eq_true (by decide)
theorem dl5_7 : ((5 : Int32) ≤ nI 7) = True := eq_true (by decide)
theorem irr {keys : Nat → Int64} {sd : Int32} {m s k k1 o o1 : Nat} (hm : m < 8) (hs : s < 4) (ho : o < 4) (ho1 : o1 < 4) (h1 : k1 = k ∨ 3 ≤ m) (h2 : o1 = o ∨ m < 2) : f_X6_whyNot keys sd (nI (kc m)) (nI s) (nI k1) (nI o1) = f_X6_whyNot keys sd (nI (kc m)) (nI s) (nI k) (nI o) ∧ f_X6_play keys sd (nI (kc m)) (nI s) (nI k1) (nI o1) = f_X6_play keys sd (nI (kc m)) (nI s) (nI k) (nI o) := by
  have f4 : (4 : Nat) < 2 ^ 31 := by decide
  rcases (show m = 0 ∨ m = 1 ∨ m = 2 ∨ m = 3 ∨ m = 4 ∨ m = 5 ∨ m = 6 ∨ m = 7 by omega) with rfl | rfl | rfl | rfl | rfl | rfl | rfl | rfl
  · obtain rfl : k1 = k := by omega
    unfold f_X6_whyNot f_X6_play
    simp only [kq0_33, kq0_38, kq0_43, kq0_45, kq0_47, kq0_61, kq0_124, kq0_126, if_true, if_false, aget_nI ho f4, aget_nI ho1 f4, Option.bind_some, and_self]
  · obtain rfl : k1 = k := by omega
    unfold f_X6_whyNot f_X6_play
    simp only [kq1_33, kq1_38, kq1_43, kq1_45, kq1_47, kq1_61, kq1_124, kq1_126, if_true, if_false, aget_nI ho f4, aget_nI ho1 f4, Option.bind_some, and_self]
  · obtain rfl : k1 = k := by omega
    obtain rfl : o1 = o := by omega
    exact ⟨rfl, rfl⟩
  · obtain rfl : o1 = o := by omega
    unfold f_X6_whyNot f_X6_play
    simp only [kq3_33, kq3_38, kq3_43, kq3_45, kq3_47, kq3_61, kq3_124, kq3_126, if_true, if_false, aget_nI ho f4, aget_nI ho1 f4, Option.bind_some, and_self]
  · obtain rfl : o1 = o := by omega
    unfold f_X6_whyNot f_X6_play
    simp only [kq4_33, kq4_38, kq4_43, kq4_45, kq4_47, kq4_61, kq4_124, kq4_126, if_true, if_false, aget_nI ho f4, aget_nI ho1 f4, Option.bind_some, and_self]
  · obtain rfl : o1 = o := by omega
    unfold f_X6_whyNot f_X6_play
    simp only [kq5_33, kq5_38, kq5_43, kq5_45, kq5_47, kq5_61, kq5_124, kq5_126, if_true, if_false, aget_nI ho f4, aget_nI ho1 f4, Option.bind_some, and_self]
  · obtain rfl : o1 = o := by omega
    unfold f_X6_whyNot f_X6_play
    simp only [kq6_33, kq6_38, kq6_43, kq6_45, kq6_47, kq6_61, kq6_124, kq6_126, if_true, if_false, aget_nI ho f4, aget_nI ho1 f4, Option.bind_some, and_self]
  · obtain rfl : o1 = o := by omega
    unfold f_X6_whyNot f_X6_play
    simp only [kq7_33, kq7_38, kq7_43, kq7_45, kq7_47, kq7_61, kq7_124, kq7_126, if_true, if_false, aget_nI ho f4, aget_nI ho1 f4, Option.bind_some, and_self]
theorem draw_c {y q r : Nat} (hy : y < 65537) (hq : y / 8 = q) (hr : y % 8 = r) : ∃ m s k o k1 o1 : Nat, m < 8 ∧ s < 4 ∧ k < 50 ∧ o < 4 ∧ o1 < 4 ∧ (k1 = k ∨ 3 ≤ m) ∧ (o1 = o ∨ m < 2) ∧ (∀ a b c d, f_X0_draw a b c d (nI y) = some (nI (kc m), nI s, nI k1, nI o1)) ∧ ∀ seed is, f_X8_drawn seed is (nI r) (nI q) = Drn seed is m s k o := by
  have D8 : nI y / (8 : Int32) = nI q := by rw [← hq]; exact pk_div (d := 8) (by omega) (by decide) (by decide)
  have R8 : nI y - nI q * (8 : Int32) = nI r := by rw [← hq, ← hr]; exact rq (d := 8) (by omega) (by decide) (by decide)
  have Da : nI (q) / (50 : Int32) = nI (q / 50) := pk_div (d := 50) (by omega) (by decide) (by decide)
  have Ra : nI (q) - nI (q / 50) * (50 : Int32) = nI ((q) % 50) := rq (d := 50) (by omega) (by decide) (by decide)
  have Db : nI (q / 50) / (4 : Int32) = nI (q / 50 / 4) := pk_div (d := 4) (by omega) (by decide) (by decide)
  have Rb : nI (q / 50) - nI (q / 50 / 4) * (4 : Int32) = nI ((q / 50) % 4) := rq (d := 4) (by omega) (by decide) (by decide)
  have Dc : nI (q) / (4 : Int32) = nI (q / 4) := pk_div (d := 4) (by omega) (by decide) (by decide)
  have Rc : nI (q) - nI (q / 4) * (4 : Int32) = nI ((q) % 4) := rq (d := 4) (by omega) (by decide) (by decide)
  have Dd : nI (q / 4) / (50 : Int32) = nI (q / 4 / 50) := pk_div (d := 50) (by omega) (by decide) (by decide)
  have Rd : nI (q / 4) - nI (q / 4 / 50) * (50 : Int32) = nI ((q / 4) % 50) := rq (d := 50) (by omega) (by decide) (by decide)
  have De : nI (q) / (200 : Int32) = nI (q / 200) := pk_div (d := 200) (by omega) (by decide) (by decide)
  have Re : nI (q) - nI (q / 200) * (200 : Int32) = nI ((q) % 200) := rq (d := 200) (by omega) (by decide) (by decide)
  have Df : nI (q / 200) / (4 : Int32) = nI (q / 200 / 4) := pk_div (d := 4) (by omega) (by decide) (by decide)
  have Rf : nI (q / 200) - nI (q / 200 / 4) * (4 : Int32) = nI ((q / 200) % 4) := rq (d := 4) (by omega) (by decide) (by decide)
  have Dg : nI (q) / (16 : Int32) = nI (q / 16) := pk_div (d := 16) (by omega) (by decide) (by decide)
  have Rg : nI (q) - nI (q / 16) * (16 : Int32) = nI ((q) % 16) := rq (d := 16) (by omega) (by decide) (by decide)
  have Dh : nI (q / 16) / (2 : Int32) = nI (q / 16 / 2) := pk_div (d := 2) (by omega) (by decide) (by decide)
  have Rh : nI (q / 16) - nI (q / 16 / 2) * (2 : Int32) = nI ((q / 16) % 2) := rq (d := 2) (by omega) (by decide) (by decide)
  have Di : nI (q / 4) / (4 : Int32) = nI (q / 4 / 4) := pk_div (d := 4) (by omega) (by decide) (by decide)
  have Ri : nI (q / 4) - nI (q / 4 / 4) * (4 : Int32) = nI ((q / 4) % 4) := rq (d := 4) (by omega) (by decide) (by decide)
  have Dj : nI (q / 16) / (4 : Int32) = nI (q / 16 / 4) := pk_div (d := 4) (by omega) (by decide) (by decide)
  have Rj : nI (q / 16) - nI (q / 16 / 4) * (4 : Int32) = nI ((q / 16) % 4) := rq (d := 4) (by omega) (by decide) (by decide)
  have c2 : (nI (q / 16 % 2) = (0 : Int32)) = (q / 16 % 2 = 0) := nI_eq' (b := 0) (by omega) (by decide)
  have c4 : (nI (q % 4) = (0 : Int32)) = (q % 4 = 0) := nI_eq' (b := 0) (by omega) (by decide)
  rcases (show r = 0 ∨ r = 1 ∨ r = 2 ∨ r = 3 ∨ r = 4 ∨ r = 5 ∨ r = 6 ∨ r = 7 by omega) with rfl | rfl | rfl | rfl | rfl | rfl | rfl | rfl
  · skip
    refine ⟨0, q / 50 % 4, q % 50, q / 16 % 4, q % 50, 0, by decide, by omega, by omega, by omega, by omega, by omega, by omega, fun a b c d => ?_, fun seed is => ?_⟩
    · unfold f_X0_draw f_X0_become
      simp only [D8, R8, Da, Ra, Db, Rb, Dc, Rc, Dd, Rd, De, Re, Df, Rf, Dg, Rg, Dh, Rh, Di, Ri, Dj, Rj, mq0_0, mq0_1, mq0_2, mq0_3, mq0_4, mq0_5, mq0_6, mq0_7, if_true, if_false, Option.bind_some]; rfl
    · unfold f_X8_drawn f_X8_actBy Drn
      simp only [D8, R8, Da, Ra, Db, Rb, Dc, Rc, Dd, Rd, De, Re, Df, Rf, Dg, Rg, Dh, Rh, Di, Ri, Dj, Rj, mq0_0, mq0_1, mq0_2, mq0_3, mq0_4, mq0_5, mq0_6, mq0_7, dl3_0, dl5_0, if_true, if_false, Option.bind_some]; rfl
  · skip
    refine ⟨0, q / 50 % 4, q % 50, q / 16 % 4, q % 50, 0, by decide, by omega, by omega, by omega, by omega, by omega, by omega, fun a b c d => ?_, fun seed is => ?_⟩
    · unfold f_X0_draw f_X0_become
      simp only [D8, R8, Da, Ra, Db, Rb, Dc, Rc, Dd, Rd, De, Re, Df, Rf, Dg, Rg, Dh, Rh, Di, Ri, Dj, Rj, mq1_0, mq1_1, mq1_2, mq1_3, mq1_4, mq1_5, mq1_6, mq1_7, if_true, if_false, Option.bind_some]; rfl
    · unfold f_X8_drawn f_X8_actBy Drn
      simp only [D8, R8, Da, Ra, Db, Rb, Dc, Rc, Dd, Rd, De, Re, Df, Rf, Dg, Rg, Dh, Rh, Di, Ri, Dj, Rj, mq1_0, mq1_1, mq1_2, mq1_3, mq1_4, mq1_5, mq1_6, mq1_7, dl3_1, dl5_1, if_true, if_false, Option.bind_some]; rfl
  · skip
    refine ⟨0, q / 50 % 4, q % 50, q / 16 % 4, q % 50, 0, by decide, by omega, by omega, by omega, by omega, by omega, by omega, fun a b c d => ?_, fun seed is => ?_⟩
    · unfold f_X0_draw f_X0_become
      simp only [D8, R8, Da, Ra, Db, Rb, Dc, Rc, Dd, Rd, De, Re, Df, Rf, Dg, Rg, Dh, Rh, Di, Ri, Dj, Rj, mq2_0, mq2_1, mq2_2, mq2_3, mq2_4, mq2_5, mq2_6, mq2_7, if_true, if_false, Option.bind_some]; rfl
    · unfold f_X8_drawn f_X8_actBy Drn
      simp only [D8, R8, Da, Ra, Db, Rb, Dc, Rc, Dd, Rd, De, Re, Df, Rf, Dg, Rg, Dh, Rh, Di, Ri, Dj, Rj, mq2_0, mq2_1, mq2_2, mq2_3, mq2_4, mq2_5, mq2_6, mq2_7, dl3_2, dl5_2, if_true, if_false, Option.bind_some]; rfl
  · skip
    refine ⟨1, q / 50 % 4, q % 50, q / 16 % 4, q % 50, 0, by decide, by omega, by omega, by omega, by omega, by omega, by omega, fun a b c d => ?_, fun seed is => ?_⟩
    · unfold f_X0_draw f_X0_become
      simp only [D8, R8, Da, Ra, Db, Rb, Dc, Rc, Dd, Rd, De, Re, Df, Rf, Dg, Rg, Dh, Rh, Di, Ri, Dj, Rj, mq3_0, mq3_1, mq3_2, mq3_3, mq3_4, mq3_5, mq3_6, mq3_7, if_true, if_false, Option.bind_some]; rfl
    · unfold f_X8_drawn f_X8_actBy Drn
      simp only [D8, R8, Da, Ra, Db, Rb, Dc, Rc, Dd, Rd, De, Re, Df, Rf, Dg, Rg, Dh, Rh, Di, Ri, Dj, Rj, mq3_0, mq3_1, mq3_2, mq3_3, mq3_4, mq3_5, mq3_6, mq3_7, dl3_3, dl5_3, if_true, if_false, Option.bind_some]; rfl
  · skip
    refine ⟨1, q / 50 % 4, q % 50, q / 16 % 4, q % 50, 0, by decide, by omega, by omega, by omega, by omega, by omega, by omega, fun a b c d => ?_, fun seed is => ?_⟩
    · unfold f_X0_draw f_X0_become
      simp only [D8, R8, Da, Ra, Db, Rb, Dc, Rc, Dd, Rd, De, Re, Df, Rf, Dg, Rg, Dh, Rh, Di, Ri, Dj, Rj, mq4_0, mq4_1, mq4_2, mq4_3, mq4_4, mq4_5, mq4_6, mq4_7, if_true, if_false, Option.bind_some]; rfl
    · unfold f_X8_drawn f_X8_actBy Drn
      simp only [D8, R8, Da, Ra, Db, Rb, Dc, Rc, Dd, Rd, De, Re, Df, Rf, Dg, Rg, Dh, Rh, Di, Ri, Dj, Rj, mq4_0, mq4_1, mq4_2, mq4_3, mq4_4, mq4_5, mq4_6, mq4_7, dl3_4, dl5_4, if_true, if_false, Option.bind_some]; rfl
  · skip
    refine ⟨2, q % 4, q / 4 % 50, q / 200 % 4, q / 4 % 50, q / 200 % 4, by decide, by omega, by omega, by omega, by omega, by omega, by omega, fun a b c d => ?_, fun seed is => ?_⟩
    · unfold f_X0_draw f_X0_become
      simp only [D8, R8, Da, Ra, Db, Rb, Dc, Rc, Dd, Rd, De, Re, Df, Rf, Dg, Rg, Dh, Rh, Di, Ri, Dj, Rj, mq5_0, mq5_1, mq5_2, mq5_3, mq5_4, mq5_5, mq5_6, mq5_7, if_true, if_false, Option.bind_some]; rfl
    · unfold f_X8_drawn f_X8_actBy Drn
      simp only [D8, R8, Da, Ra, Db, Rb, Dc, Rc, Dd, Rd, De, Re, Df, Rf, Dg, Rg, Dh, Rh, Di, Ri, Dj, Rj, mq5_0, mq5_1, mq5_2, mq5_3, mq5_4, mq5_5, mq5_6, mq5_7, dl3_5, dl5_5, if_true, if_false, Option.bind_some]; rfl
  · by_cases z : q / 16 % 2 = 0
    · skip
      refine ⟨3, q % 4, q / 4 % 50, q / 4 % 4, 0, q / 4 % 4, by decide, by omega, by omega, by omega, by omega, by omega, by omega, fun a b c d => ?_, fun seed is => ?_⟩
      · unfold f_X0_draw f_X0_become
        simp only [D8, R8, Da, Ra, Db, Rb, Dc, Rc, Dd, Rd, De, Re, Df, Rf, Dg, Rg, Dh, Rh, Di, Ri, Dj, Rj, mq6_0, mq6_1, mq6_2, mq6_3, mq6_4, mq6_5, mq6_6, mq6_7, if_true, if_false, Option.bind_some, c2, z]; rfl
      · unfold f_X8_drawn f_X8_actBy Drn
        simp only [D8, R8, Da, Ra, Db, Rb, Dc, Rc, Dd, Rd, De, Re, Df, Rf, Dg, Rg, Dh, Rh, Di, Ri, Dj, Rj, mq6_0, mq6_1, mq6_2, mq6_3, mq6_4, mq6_5, mq6_6, mq6_7, dl3_6, dl5_6, if_true, if_false, Option.bind_some, c2, z]; rfl
    · skip
      refine ⟨5, q % 4, q / 4 % 50, q / 4 % 4, 0, q / 4 % 4, by decide, by omega, by omega, by omega, by omega, by omega, by omega, fun a b c d => ?_, fun seed is => ?_⟩
      · unfold f_X0_draw f_X0_become
        simp only [D8, R8, Da, Ra, Db, Rb, Dc, Rc, Dd, Rd, De, Re, Df, Rf, Dg, Rg, Dh, Rh, Di, Ri, Dj, Rj, mq6_0, mq6_1, mq6_2, mq6_3, mq6_4, mq6_5, mq6_6, mq6_7, if_true, if_false, Option.bind_some, c2, z]; rfl
      · unfold f_X8_drawn f_X8_actBy Drn
        simp only [D8, R8, Da, Ra, Db, Rb, Dc, Rc, Dd, Rd, De, Re, Df, Rf, Dg, Rg, Dh, Rh, Di, Ri, Dj, Rj, mq6_0, mq6_1, mq6_2, mq6_3, mq6_4, mq6_5, mq6_6, mq6_7, dl3_6, dl5_6, if_true, if_false, Option.bind_some, c2, z]; rfl
  · by_cases z : q % 4 = 0
    · skip
      refine ⟨7, q / 4 % 4, q / 4 % 50, q / 16 % 4, 0, q / 16 % 4, by decide, by omega, by omega, by omega, by omega, by omega, by omega, fun a b c d => ?_, fun seed is => ?_⟩
      · unfold f_X0_draw f_X0_become
        simp only [D8, R8, Da, Ra, Db, Rb, Dc, Rc, Dd, Rd, De, Re, Df, Rf, Dg, Rg, Dh, Rh, Di, Ri, Dj, Rj, mq7_0, mq7_1, mq7_2, mq7_3, mq7_4, mq7_5, mq7_6, mq7_7, if_true, if_false, Option.bind_some, c4, z]; rfl
      · unfold f_X8_drawn f_X8_actBy Drn
        simp only [D8, R8, Da, Ra, Db, Rb, Dc, Rc, Dd, Rd, De, Re, Df, Rf, Dg, Rg, Dh, Rh, Di, Ri, Dj, Rj, mq7_0, mq7_1, mq7_2, mq7_3, mq7_4, mq7_5, mq7_6, mq7_7, dl3_7, dl5_7, if_true, if_false, Option.bind_some, c4, z]; rfl
    · skip
      refine ⟨4, q / 4 % 4, q / 4 % 50, q / 16 % 4, 0, q / 16 % 4, by decide, by omega, by omega, by omega, by omega, by omega, by omega, fun a b c d => ?_, fun seed is => ?_⟩
      · unfold f_X0_draw f_X0_become
        simp only [D8, R8, Da, Ra, Db, Rb, Dc, Rc, Dd, Rd, De, Re, Df, Rf, Dg, Rg, Dh, Rh, Di, Ri, Dj, Rj, mq7_0, mq7_1, mq7_2, mq7_3, mq7_4, mq7_5, mq7_6, mq7_7, if_true, if_false, Option.bind_some, c4, z]; rfl
      · unfold f_X8_drawn f_X8_actBy Drn
        simp only [D8, R8, Da, Ra, Db, Rb, Dc, Rc, Dd, Rd, De, Re, Df, Rf, Dg, Rg, Dh, Rh, Di, Ri, Dj, Rj, mq7_0, mq7_1, mq7_2, mq7_3, mq7_4, mq7_5, mq7_6, mq7_7, dl3_7, dl5_7, if_true, if_false, Option.bind_some, c4, z]; rfl
end DrawPart
