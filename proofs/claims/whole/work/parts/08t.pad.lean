section PadPart
def kc (m : Nat) : Nat := if m = 0 then 43 else if m = 1 then 45 else if m = 2 then 47 else if m = 3 then 38 else if m = 4 then 61 else if m = 5 then 124 else if m = 6 then 126 else 33
theorem fol0 : ∀ c, c < 127 → f_X2_follow 0 (nI c) = some (if c = 33 then 0 else if 65 ≤ c ∧ c ≤ 68 then 1 else -6) := by decide +kernel
theorem fol2 : ∀ c, c < 127 → f_X2_follow 2 (nI c) = some (if 48 ≤ c ∧ c ≤ 52 then 3 else -6) := by decide +kernel
theorem fol3 : ∀ c, c < 127 → f_X2_follow 3 (nI c) = some (if 48 ≤ c ∧ c ≤ 57 then 0 else -6) := by decide +kernel
theorem fol4 : ∀ c, c < 127 → f_X2_follow 4 (nI c) = some (if 48 ≤ c ∧ c ≤ 52 then 5 else -6) := by decide +kernel
theorem fol5 : ∀ c, c < 127 → f_X2_follow 5 (nI c) = some (if 48 ≤ c ∧ c ≤ 57 then 6 else -6) := by decide +kernel
theorem fol6 : ∀ c, c < 127 → f_X2_follow 6 (nI c) = some (if 65 ≤ c ∧ c ≤ 68 then 0 else -6) := by decide +kernel
theorem fol1 : ∀ m, m < 7 → f_X2_follow 1 (nI (kc m)) = some (if m < 2 then 2 else if m = 2 then 4 else 6) := by decide +kernel
theorem fk1 : ∀ m, m < 7 → f_X2_followKind (nI (kc m)) = some (if m < 2 then 2 else if m = 2 then 4 else 6) := by decide +kernel
theorem fol1n : ∀ c, c < 127 → (∃ m, m < 7 ∧ c = kc m) ∨ f_X2_follow 1 (nI c) = some (-6) := by decide +kernel
theorem in6568 : ∀ c, c < 127 → f_X8_in (nI c).toInt64 (65 : Int64) (68 : Int64) = some (if 65 ≤ c ∧ c ≤ 68 then 1 else 0) := by decide +kernel
theorem in4852 : ∀ c, c < 127 → f_X8_in (nI c).toInt64 (48 : Int64) (52 : Int64) = some (if 48 ≤ c ∧ c ≤ 52 then 1 else 0) := by decide +kernel
theorem in4857 : ∀ c, c < 127 → f_X8_in (nI c).toInt64 (48 : Int64) (57 : Int64) = some (if 48 ≤ c ∧ c ≤ 57 then 1 else 0) := by decide +kernel
theorem begun_yes {a : Nat} (ha : a < 60) (act : Nat → Int32) {m : Nat} (hm : m < 7) : f_X8_begun act (nI a) (nI (kc m)) = some (if m < 3 then 2 else 4, upd act a (nI m)) := by
  have h := fun (x y : Int32) => show f_X8_deed act (nI a) x y = some (y, upd act a x) by unfold f_X8_deed; rw [aset_nI ha (by decide), Option.bind_some]
  rcases (show m = 0 ∨ m = 1 ∨ m = 2 ∨ m = 3 ∨ m = 4 ∨ m = 5 ∨ m = 6 by omega) with rfl | rfl | rfl | rfl | rfl | rfl | rfl <;> (unfold f_X8_begun; simp only [h]; rfl)
theorem kc_lt (m : Nat) : kc m < 127 := by
  unfold kc
  by_cases h0 : m = 0
  · rw [if_pos h0]; decide
  rw [if_neg h0]
  by_cases h1 : m = 1
  · rw [if_pos h1]; decide
  rw [if_neg h1]
  by_cases h2 : m = 2
  · rw [if_pos h2]; decide
  rw [if_neg h2]
  by_cases h3 : m = 3
  · rw [if_pos h3]; decide
  rw [if_neg h3]
  by_cases h4 : m = 4
  · rw [if_pos h4]; decide
  rw [if_neg h4]
  by_cases h5 : m = 5
  · rw [if_pos h5]; decide
  rw [if_neg h5]
  by_cases h6 : m = 6
  · rw [if_pos h6]; decide
  rw [if_neg h6]; decide
theorem begun_no {c : Nat} (hc : c < 127) (h : ¬ ∃ m, m < 7 ∧ c = kc m) (act : Nat → Int32) (acts : Int32) : f_X8_begun act acts (nI c) = some (-6, act) := by
  have q := fun (m : Nat) (hm : m < 7) (e : nI c = nI (kc m)) => h ⟨m, hm, nI_inj (by omega) (Nat.lt_trans (kc_lt m) (by decide)) e⟩
  unfold f_X8_begun
  rw [if_neg (show ¬ nI c = (38 : Int32) from q 3 (by decide)), if_neg (show ¬ nI c = (43 : Int32) from q 0 (by decide)), if_neg (show ¬ nI c = (45 : Int32) from q 1 (by decide)), if_neg (show ¬ nI c = (47 : Int32) from q 2 (by decide)), if_neg (show ¬ nI c = (61 : Int32) from q 4 (by decide)), if_neg (show ¬ nI c = (124 : Int32) from q 5 (by decide)), if_neg (show ¬ nI c = (126 : Int32) from q 6 (by decide))]
def Rd (signs : Nat → Int32) (count : Int32) (m s k o p q : Nat) : Prop := ∀ r1 r2 r3 r4, f_X2_read signs count r1 r2 r3 r4 (nI p) = some (nI (q - p), nI (kc m), nI s, nI k, nI o)
def AtOK (signs : Nat → Int32) (count : Int32) (act which key other : Nat → Int32) (i p q : Nat) : Prop := ∃ m s k o, m < 8 ∧ s < 4 ∧ k < 50 ∧ o < 4 ∧ p < q ∧ act i = nI m ∧ which i = nI s ∧ key i = nI k ∧ other i = nI o ∧ Rd signs count m s k o p q
theorem AtOK_congr {signs : Nat → Int32} {count : Int32} {act which key other act' which' key' other' : Nat → Int32} {i p q : Nat} (h : AtOK signs count act which key other i p q) (e1 : act' i = act i) (e2 : which' i = which i) (e3 : key' i = key i) (e4 : other' i = other i) : AtOK signs count act' which' key' other' i p q := by
  obtain ⟨m, s, k, o, a1, a2, a3, a4, a5, a6, a7, a8, a9, a10⟩ := h
  exact ⟨m, s, k, o, a1, a2, a3, a4, a5, e1.trans a6, e2.trans a7, e3.trans a8, e4.trans a9, a10⟩
theorem sign_in {signs : Nat → Int32} {np j : Nat} (h : j < np) (hn : np ≤ 60) : f_X2_sign signs (nI np) (nI j) = some (signs j) := by
  unfold f_X2_sign
  rw [lit32 0, if_neg (nI_nlt (by omega) (by omega)), if_neg (nI_ge (by omega) (by omega)), aget_nI (by omega) (by decide), Option.bind_some]
theorem let_back {s : Nat} : nI (65 + s) - (65 : Int32) = nI s := by rw [lit32 65, pk_sub (by omega)]; congr 1; omega
theorem setAt_in {signs : Nat → Int32} {np j s : Nat} (h : j < np) (hn : np ≤ 60) (hs : s < 4) (e : signs j = nI (65 + s)) : f_X2_setAt signs (nI np) (nI j) = some (nI s) := by
  unfold f_X2_setAt
  rw [sign_in h hn, Option.bind_some, e, let_back, isSet_in hs, Option.bind_some, if_neg (show ¬ (1 : Int32) = 0 by decide)]
theorem fig_back {t u : Nat} : (10 : Int32) * (nI (48 + t) - (48 : Int32)) + nI (48 + u) - (48 : Int32) = nI (10 * t + u) := by
  rw [lit32 48, lit32 10, pk_sub (by omega), pk_mul, nI_add, pk_sub (by omega)]; congr 1; omega
theorem rd1 {signs : Nat → Int32} {np p : Nat} (hn : np ≤ 60) (h : p < np) (e : signs p = nI 33) : Rd signs (nI np) 7 0 0 0 p (p + 1) := by
  intro r1 r2 r3 r4
  unfold f_X2_read
  rw [sign_in h hn, Option.bind_some, e, if_pos (show nI 33 = (33 : Int32) from rfl), show p + 1 - p = 1 by omega]; rfl
theorem ne33 {s : Nat} (hs : s < 4) : ¬ (nI (65 + s) = (33 : Int32)) := fun q => by
  have := nI_inj (a := 65 + s) (b := 33) (by omega) (by decide) q
  omega
theorem rd3 {signs : Nat → Int32} {np p s o m : Nat} (hn : np ≤ 60) (h : p + 2 < np) (hs : s < 4) (ho : o < 4) (hm : m < 7) (hm3 : 3 ≤ m) (e0 : signs p = nI (65 + s)) (e1 : signs (p + 1) = nI (kc m)) (e2 : signs (p + 2) = nI (65 + o)) : Rd signs (nI np) m s 0 o p (p + 3) := by
  intro r1 r2 r3 r4
  have fk := fk1 m hm
  rw [if_neg (show ¬ m < 2 by omega), if_neg (show ¬ m = 2 by omega)] at fk
  unfold f_X2_read
  rw [sign_in (by omega) hn, Option.bind_some, e0, if_neg (ne33 hs), setAt_in (by omega) hn hs e0, Option.bind_some, nI_one, sign_in (by omega) hn, Option.bind_some, e1, fk, Option.bind_some, if_pos (show (6 : Int32) = 6 from rfl), lit32 2, nI_add, setAt_in h hn ho e2, Option.bind_some, show p + 3 - p = 3 by omega]
  rfl
theorem rd4 {signs : Nat → Int32} {np p s t u m : Nat} (hn : np ≤ 60) (h : p + 3 < np) (hs : s < 4) (hm : m < 2) (e0 : signs p = nI (65 + s)) (e1 : signs (p + 1) = nI (kc m)) (e2 : signs (p + 2) = nI (48 + t)) (e3 : signs (p + 3) = nI (48 + u)) : Rd signs (nI np) m s (10 * t + u) 0 p (p + 4) := by
  intro r1 r2 r3 r4
  have fk := fk1 m (by omega)
  rw [if_pos (show m < 2 by omega)] at fk
  have n47 : ¬ (nI (kc m) = (47 : Int32)) := by
    rcases (show m = 0 ∨ m = 1 by omega) with rfl | rfl <;> decide
  unfold f_X2_read
  rw [sign_in (by omega) hn, Option.bind_some, e0, if_neg (ne33 hs), setAt_in (by omega) hn hs e0, Option.bind_some, nI_one, sign_in (by omega) hn, Option.bind_some, e1, fk, Option.bind_some, if_neg (show ¬ (2 : Int32) = 6 by decide), lit32 2, nI_add, sign_in (by omega) hn, Option.bind_some, lit32 3, nI_add, sign_in (by omega) hn, Option.bind_some, e2, e3, if_neg n47, fig_back, show p + 4 - p = 4 by omega]
  rfl
theorem rd5 {signs : Nat → Int32} {np p s t u o : Nat} (hn : np ≤ 60) (h : p + 4 < np) (hs : s < 4) (ho : o < 4) (e0 : signs p = nI (65 + s)) (e1 : signs (p + 1) = nI (kc 2)) (e2 : signs (p + 2) = nI (48 + t)) (e3 : signs (p + 3) = nI (48 + u)) (e4 : signs (p + 4) = nI (65 + o)) : Rd signs (nI np) 2 s (10 * t + u) o p (p + 5) := by
  intro r1 r2 r3 r4
  unfold f_X2_read
  rw [sign_in (by omega) hn, Option.bind_some, e0, if_neg (ne33 hs), setAt_in (by omega) hn hs e0, Option.bind_some, nI_one, sign_in (by omega) hn, Option.bind_some, e1, (show f_X2_followKind (nI (kc 2)) = some 4 from fk1 2 (by decide)), Option.bind_some, if_neg (show ¬ (4 : Int32) = 6 by decide), lit32 2, nI_add, sign_in (by omega) hn, Option.bind_some, lit32 3, nI_add, sign_in (by omega) hn, Option.bind_some, e2, e3, if_pos (show nI (kc 2) = (47 : Int32) from rfl), lit32 4, nI_add, setAt_in h hn ho e4, Option.bind_some, fig_back, show p + 5 - p = 5 by omega]
  rfl
end PadPart
