/-! the relation of the two states -/
def q50 (p : Nat → Bool) : Nat → Bool := fun k => decide (k < 50) && p k
def SetR (S : Nat → Nat → Bool) (keys : Nat → Int64) (is : Nat → Int32) : Prop := ∀ g, g < 4 → Bits (keys g) (q50 (S g)) ∧ MR is g (S g) ∧ cnt (S g) 50 ≤ 40
/-- the sights: ns of them, and the seeds by which all are so -/
def fitB (so st : Nat → Int32) (ns v : Nat) : Prop := ∀ e, e < ns → ∀ a b, so e = nI a → st e = nI b → a < 50 → b < 50 → rk v a b
def SgtR (cs : Int32) (sds : Nat → Int64) (ms : Int32) (so st : Nat → Int32) : Prop := ∃ ns, ns ≤ 8 ∧ cs = nI ns ∧ ms = nI ns ∧ (∀ e, e < ns → ∃ a b, a < 50 ∧ b < 50 ∧ so e = nI a ∧ st e = nI b) ∧ (∀ w, w < 157 → ∀ i, i < 64 → (bx (sds w) i = true ↔ (64 * w + i < 10000 ∧ fitB so st ns (64 * w + i))))
def Core (keys : Nat → Int64) (seed : Int32) (cs : Int32) (sds : Nat → Int64) (mseed : Int32) (ms : Int32) (is so st : Nat → Int32) : Prop := ∃ (S : Nat → Nat → Bool) (sd : Nat), sd < 10000 ∧ seed = nI sd ∧ mseed = nI sd ∧ SetR S keys is ∧ SgtR cs sds ms so st
def PadR (signs : Nat → Int32) (count : Int32) (pad : Nat → Int32) (padMany : Int32) : Prop := ∃ np, np ≤ 60 ∧ count = nI np ∧ padMany = nI np ∧ ∀ i, i < np → ∃ c, 33 ≤ c ∧ c ≤ 126 ∧ signs i = nI c ∧ pad i = nI c
def ImgR (kept : Int32) (keys : Nat → Int64) (seed : Int32) (cs : Int32) (sds : Nat → Int64) (mk : Int32) (kf : Nat → Int32) : Prop :=
  (kept = 0 ∧ mk = 0) ∨ (kept = 1 ∧ mk = 1 ∧ Core keys seed cs sds (kf 0) (kf 1) (fun j => kf (2 + j)) (fun j => kf (202 + j)) (fun j => kf (210 + j)))
def Inv (k : KS) (m : MS) : Prop :=
  Core k.1 k.2.1 k.2.2.2.2.2.2.1 k.2.2.2.2.2.2.2.1 m.1 m.2.2.2.2.1 m.2.1 m.2.2.1 m.2.2.2.1 ∧ PadR k.2.2.2.2.1 k.2.2.2.2.2.1 m.2.2.2.2.2.1 m.2.2.2.2.2.2.1 ∧
  ImgR k.2.2.2.2.2.2.2.2.1 k.2.2.2.2.2.2.2.2.2.1 k.2.2.2.2.2.2.2.2.2.2.1 k.2.2.2.2.2.2.2.2.2.2.2.1 k.2.2.2.2.2.2.2.2.2.2.2.2.1 (m.2.2.2.2.2.2.2.2.2.2.2.2.2.2.2.2.2.2.2.2.2.2.2.2.2.2.2.1 0) (fun j => m.2.2.2.2.2.2.2.2.2.2.2.2.2.2.2.2.2.2.2.2.2.2.2.2.2.2.1 j) ∧
  ImgR k.2.2.2.2.2.2.2.2.2.2.2.2.2.1 k.2.2.2.2.2.2.2.2.2.2.2.2.2.2.1 k.2.2.2.2.2.2.2.2.2.2.2.2.2.2.2.1 k.2.2.2.2.2.2.2.2.2.2.2.2.2.2.2.2.1 k.2.2.2.2.2.2.2.2.2.2.2.2.2.2.2.2.2.1 (m.2.2.2.2.2.2.2.2.2.2.2.2.2.2.2.2.2.2.2.2.2.2.2.2.2.2.2.1 1) (fun j => m.2.2.2.2.2.2.2.2.2.2.2.2.2.2.2.2.2.2.2.2.2.2.2.2.2.2.1 (230 + j)) ∧
  PB k.2.2.2.2.2.2.2.2.2.2.2.2.2.2.2.2.2.2.2.2.2.2.2.2.2.2.2.2.2.1 k.2.2.2.2.2.2.2.2.2.2.2.2.2.2.2.2.2.2.2.2.2.2.2.2.2.2.2.2.2.2.1 ∧ PB k.2.2.2.2.2.2.2.2.2.2.2.2.2.2.2.2.2.2.2.2.2.2.2.2.2.2.2.2.2.2.2.2.2.2.2.2.2.2.2.1 k.2.2.2.2.2.2.2.2.2.2.2.2.2.2.2.2.2.2.2.2.2.2.2.2.2.2.2.2.2.2.2.2.2.2.2.2.2.2.2.2.1 ∧ OrdOK m.2.2.2.2.2.2.2.2.2.2.2.2.1
theorem bx_key {S : Nat → Nat → Bool} {keys : Nat → Int64} {is : Nat → Int32} (h : SetR S keys is) {g j : Nat} (hg : g < 4) (hj : j < 50) : bx (keys g) j = S g j := by
  rw [(h g hg).1 j (by omega)]; simp [q50, hj]
theorem cnt_cut {q r : Nat → Bool} {j : Nat} : ∀ n, j ≤ n → (∀ k, j ≤ k → k < n → r k = false) → (∀ k, k < j → r k = q k) → cnt r n = cnt q j := by
  intro n
  induction n with
  | zero => intro h1 h2 h3; rw [show j = 0 by omega]; rfl
  | succ n ih =>
    intro h1 h2 h3
    by_cases c : j = n + 1
    · subst c; exact cnt_congr _ (fun k hk => h3 k hk)
    · rw [cnt, ih (by omega) (fun k h4 h5 => h2 k h4 (by omega)) h3, h2 n (by omega) (by omega)]; rfl
theorem pcx_keys {S : Nat → Nat → Bool} {keys : Nat → Int64} {is : Nat → Int32} (h : SetR S keys is) {g : Nat} (hg : g < 4) : pcx (keys g) = cnt (S g) 50 := by
  refine cnt_cut 64 (by omega) (fun k h1 h2 => ?_) (fun k hk => bx_key h hg hk)
  rw [(h g hg).1 k h2]; simp [q50, Nat.not_lt.mpr h1]
section Simple
variable {S : Nat → Nat → Bool} {keys : Nat → Int64} {is : Nat → Int32}
theorem place_loop {g j : Nat} {p : Nat → Bool} (hM : MR is g p) (hg : g < 4) (hj : j < 50) : ∀ n k, k ≤ j → j + 1 ≤ k + n → L_X8_place_21 n is (nI g) (nI j) (nI (cnt p k)) (nI k) = some (nI (cnt p j)) := by
  intro n
  induction n with
  | zero => intro k h1 h2; omega
  | succ n ih =>
    intro k h1 h2
    rw [L_X8_place_21]
    by_cases c : k = j
    · subst c; rw [if_pos ((nI_leI (by omega) (by omega)).mpr (Nat.le_refl _))]
    · rw [if_neg (nI_ge (by omega) (by omega)), lit32 50, pk_mul, nI_add, aget_nI (by omega) (by decide), Option.bind_some, hM k (by omega), nI_one]
      have e : nI (cnt p k) + b01 (p k) = nI (cnt p (k + 1)) := by
        unfold b01
        rw [cnt]
        cases p k
        · show nI (cnt p k) + nI 0 = _; rw [nI_add]; rfl
        · show nI (cnt p k) + nI 1 = _; rw [nI_add]; rfl
      rw [e]
      exact ih (k + 1) (by omega) (by omega)
theorem place_eq (h : SetR S keys is) (v1 v2 : Int32) : ∃ r, f_X7_place keys v1 v2 = some r ∧ f_X8_place is v1 v2 = some r := by
  unfold f_X7_place f_X8_place
  rcases ixc v1 4 (by decide) with ⟨g, hg, rfl⟩ | hv
  · rw [isSet_in hg, mSet_in hg, Option.bind_some, Option.bind_some, if_neg (by decide), if_neg (by decide)]
    rcases ixc v2 50 (by decide) with ⟨j, hj, rfl⟩ | hv
    · have e : L_X8_place_21 20000 is (nI g) (nI j) (0 : Int32) (0 : Int32) = some (nI (cnt (S g) j)) := place_loop (h g hg).2.1 hg hj 20000 0 (by omega) (by omega)
      rw [isKey_in hj, mKey_in hj, Option.bind_some, Option.bind_some, if_neg (by decide), if_neg (by decide), aget_nI hg (by decide), Option.bind_some, less_eq, Option.bind_some, count_eq, Option.bind_some, e, Option.bind_some]
      refine ⟨_, rfl, ?_⟩
      congr 2
      symm
      refine cnt_cut 64 (by omega) (fun k h1 h2 => ?_) (fun k hk => ?_)
      · rw [bx_and, bx_less (by omega) h2]; simp [Nat.not_lt.mpr h1]
      · rw [bx_and, bx_less (by omega) (by omega), bx_key h hg (by omega)]; simp [hk]
    · rw [isKey_out hv, mKey_out hv, Option.bind_some, Option.bind_some, if_pos rfl, if_pos rfl]; exact ⟨_, rfl, rfl⟩
  · rw [isSet_out hv, mSet_out hv, Option.bind_some, Option.bind_some, if_pos rfl, if_pos rfl]; exact ⟨_, rfl, rfl⟩
theorem pick_loop {g : Nat} {p : Nat → Bool} {x : Int64} (hM : MR is g p) (hg : g < 4) (hx : ∀ j, j < 50 → bx x j = p j) (i : Int32) : ∀ n k (c : Int32), k ≤ 50 → 51 ≤ k + n → ∃ r, L_X7_pick_5 n x i c (nI k) = some r ∧ L_X8_at_14 n is (nI g) i c (nI k) = some r := by
  intro n
  induction n with
  | zero => intro k c h1 h2; omega
  | succ n ih =>
    intro k c h1 h2
    rw [L_X7_pick_5, L_X8_at_14]
    by_cases w : k = 50
    · subst w; rw [if_pos (by decide), if_pos (by decide)]; exact ⟨_, rfl, rfl⟩
    · rw [lit32 50, if_neg (nI_ge (by omega) (by omega)), if_neg (nI_ge (by omega) (by omega)), isIn_eq _ (by omega), has_eq hM hg (by omega), Option.bind_some, Option.bind_some, hx k (by omega), nI_one]
      cases p k
      · rw [if_pos (show b01 false = 0 from rfl), if_pos (show b01 false = 0 from rfl)]; exact ih (k + 1) c (by omega) (by omega)
      · rw [if_neg (show ¬ b01 true = 0 by decide), if_neg (show ¬ b01 true = 0 by decide)]
        by_cases e : c = i
        · rw [if_pos e, if_pos e]; exact ⟨_, rfl, rfl⟩
        · rw [if_neg e, if_neg e]; exact ih (k + 1) (c + 1) (by omega) (by omega)
theorem at_eq (h : SetR S keys is) (v1 v2 : Int32) : ∃ r, f_X7_at keys v1 v2 = some r ∧ f_X8_at is v1 v2 = some r := by
  unfold f_X7_at f_X8_at
  rcases ixc v1 4 (by decide) with ⟨g, hg, rfl⟩ | hv
  · obtain ⟨r, e1, e2⟩ := pick_loop (h g hg).2.1 hg (fun j hj => bx_key h hg hj) v2 20000 0 0 (by omega) (by omega)
    have e1' : f_X7_pick (keys g) v2 = some r := e1
    have e2' : L_X8_at_14 20000 is (nI g) v2 (0 : Int32) (0 : Int32) = some r := e2
    rw [isSet_in hg, mSet_in hg, Option.bind_some, Option.bind_some, if_neg (by decide), if_neg (by decide), aget_nI hg (by decide), Option.bind_some, e1', e2', Option.bind_some]
    exact ⟨r, rfl, rfl⟩
  · rw [isSet_out hv, mSet_out hv, Option.bind_some, Option.bind_some, if_pos rfl, if_pos rfl]; exact ⟨_, rfl, rfl⟩
theorem diff_loop (h : SetR S keys is) {g1 g2 : Nat} (h1 : g1 < 4) (h2 : g2 < 4) (i : Int32) : ∀ n k (c : Int32), k ≤ 50 → 51 ≤ k + n → ∃ r, L_X7_pick_5 n (keys g1 ^^^ keys g2) i c (nI k) = some r ∧ L_X8_differs_22 n is (nI g1) (nI g2) i c (nI k) = some r := by
  intro n
  induction n with
  | zero => intro k c q1 q2; omega
  | succ n ih =>
    intro k c q1 q2
    rw [L_X7_pick_5, L_X8_differs_22]
    by_cases w : k = 50
    · subst w; rw [if_pos (by decide), if_pos (by decide)]; exact ⟨_, rfl, rfl⟩
    · rw [lit32 50, if_neg (nI_ge (by omega) (by omega)), if_neg (nI_ge (by omega) (by omega)), isIn_eq _ (by omega), has_eq (h g1 h1).2.1 h1 (by omega), has_eq (h g2 h2).2.1 h2 (by omega), Option.bind_some, Option.bind_some, Option.bind_some, bx_xor, bx_key h h1 (by omega), bx_key h h2 (by omega), nI_one]
      obtain ⟨r1, e1, e2⟩ := ih (k + 1) c (by omega) (by omega)
      obtain ⟨r2, e3, e4⟩ := ih (k + 1) (c + 1) (by omega) (by omega)
      cases S g1 k <;> cases S g2 k
      · exact ⟨r1, e1, e2⟩
      · by_cases e : c = i
        · refine ⟨nI k, ?_, ?_⟩
          · show (if c = i then some (nI k) else _) = _; rw [if_pos e]
          · show (if c = i then some (nI k) else _) = _; rw [if_pos e]
        · refine ⟨r2, ?_, ?_⟩
          · show (if c = i then some (nI k) else L_X7_pick_5 n _ i (c + 1) (nI (k + 1))) = _; rw [if_neg e]; exact e3
          · show (if c = i then some (nI k) else L_X8_differs_22 n is _ _ i (c + 1) (nI (k + 1))) = _; rw [if_neg e]; exact e4
      · by_cases e : c = i
        · refine ⟨nI k, ?_, ?_⟩
          · show (if c = i then some (nI k) else _) = _; rw [if_pos e]
          · show (if c = i then some (nI k) else _) = _; rw [if_pos e]
        · refine ⟨r2, ?_, ?_⟩
          · show (if c = i then some (nI k) else L_X7_pick_5 n _ i (c + 1) (nI (k + 1))) = _; rw [if_neg e]; exact e3
          · show (if c = i then some (nI k) else L_X8_differs_22 n is _ _ i (c + 1) (nI (k + 1))) = _; rw [if_neg e]; exact e4
      · exact ⟨r1, e1, e2⟩
theorem differs_eq (h : SetR S keys is) (v1 v2 v3 : Int32) : ∃ r, f_X7_differs keys v1 v2 v3 = some r ∧ f_X8_differs is v1 v2 v3 = some r := by
  unfold f_X7_differs f_X8_differs
  rcases ixc v1 4 (by decide) with ⟨g, hg, rfl⟩ | hv
  · rw [isSet_in hg, mSet_in hg, Option.bind_some, Option.bind_some, if_neg (by decide), if_neg (by decide)]
    rcases ixc v2 4 (by decide) with ⟨g2, hg2, rfl⟩ | hv
    · obtain ⟨r, e1, e2⟩ := diff_loop h hg hg2 v3 20000 0 0 (by omega) (by omega)
      have e1' : f_X7_pick (keys g ^^^ keys g2) v3 = some r := e1
      have e2' : L_X8_differs_22 20000 is (nI g) (nI g2) v3 (0 : Int32) (0 : Int32) = some r := e2
      rw [isSet_in hg2, mSet_in hg2, Option.bind_some, Option.bind_some, if_neg (by decide), if_neg (by decide), aget_nI hg (by decide), Option.bind_some, aget_nI hg2 (by decide), Option.bind_some, e1', e2', Option.bind_some]
      exact ⟨r, rfl, rfl⟩
    · rw [isSet_out hv, mSet_out hv, Option.bind_some, Option.bind_some, if_pos rfl, if_pos rfl]; exact ⟨_, rfl, rfl⟩
  · rw [isSet_out hv, mSet_out hv, Option.bind_some, Option.bind_some, if_pos rfl, if_pos rfl]; exact ⟨_, rfl, rfl⟩
/-- one key of one set becomes b -/
def setS (S : Nat → Nat → Bool) (g j : Nat) (b : Bool) : Nat → Nat → Bool := fun g' j' => if g' = g ∧ j' = j then b else S g' j'
theorem setS_s (S : Nat → Nat → Bool) (g j : Nat) (b : Bool) : setS S g j b g j = b := by simp [setS]
theorem setS_n {S : Nat → Nat → Bool} {g j g' j' : Nat} {b : Bool} (h : ¬ (g' = g ∧ j' = j)) : setS S g j b g' j' = S g' j' := by unfold setS; rw [if_neg h]
theorem cnt_setS (S : Nat → Nat → Bool) {g j : Nat} (hj : j < 50) (b : Bool) : cnt (setS S g j b g) 50 + (b01 (S g j)).toNatClampNeg = cnt (S g) 50 + (b01 b).toNatClampNeg := by
  cases h1 : S g j <;> cases b
  · show cnt _ 50 + 0 = cnt _ 50 + 0
    rw [cnt_congr 50 (fun k _ => ?_)]
    by_cases z : k = j
    · rw [z, setS_s, h1]
    · exact setS_n (fun w => z w.2)
  · show cnt _ 50 + 0 = cnt _ 50 + 1
    rw [cnt_add (q := S g) 50 j hj (fun k _ hn => setS_n (fun w => hn w.2)) h1 (setS_s _ _ _ _)]
  · show cnt _ 50 + 1 = cnt _ 50 + 0
    rw [cnt_add (r := S g) (q := setS S g j false g) 50 j hj (fun k _ hn => (setS_n (fun w => hn w.2)).symm) (setS_s _ _ _ _) h1]
  · show cnt _ 50 + 1 = cnt _ 50 + 1
    rw [cnt_congr 50 (fun k _ => ?_)]
    by_cases z : k = j
    · rw [z, setS_s, h1]
    · exact setS_n (fun w => z w.2)
theorem SetR_set (h : SetR S keys is) {g j : Nat} (hg : g < 4) (hj : j < 50) (b : Bool) (hc : cnt (setS S g j b g) 50 ≤ 40) {x : Int64} (hx : ∀ k, k < 64 → bx x k = if k = j then b else bx (keys g) k) : SetR (setS S g j b) (vp_updL keys g x) (upd is (50 * g + j) (b01 b)) := by
  intro g' hg'
  by_cases z : g' = g
  · subst z
    refine ⟨fun k hk => ?_, fun k hk => ?_, hc⟩
    · rw [updL_s, hx k hk]
      by_cases w : k = j
      · subst w; rw [if_pos rfl]; simp [q50, setS, hj]
      · rw [if_neg w, (h g' hg).1 k hk]; unfold q50; rw [setS_n (fun q => w q.2)]
    · by_cases w : k = j
      · subst w; rw [upd_s, setS_s]
      · rw [upd_n _ _ (by omega), (h g' hg).2.1 k hk, setS_n (fun q => w q.2)]
  · obtain ⟨a1, a2, a3⟩ := h g' hg'
    have hs : setS S g j b g' = S g' := funext (fun k => setS_n (fun q => z q.1))
    rw [hs]
    refine ⟨by rw [updL_n _ _ z]; exact a1, fun k hk => ?_, a3⟩
    rw [upd_n _ _ (by omega)]; exact a2 k hk
theorem put_bits (x : Int64) {j : Nat} (hj : j < 50) : (∀ k, k < 64 → bx (x ||| bitv j) k = if k = j then true else bx x k) ∧ (∀ k, k < 64 → bx (x &&& (bitv j ^^^ (-1))) k = if k = j then false else bx x k) := by
  constructor
  · intro k hk
    rw [bx_or, bx_bit (by omega) hk]
    by_cases z : k = j
    · simp [z]
    · simp [z]
  · intro k hk
    rw [bx_and, bx_not _ hk, bx_bit (by omega) hk]
    by_cases z : k = j
    · simp [z]
    · simp [z]
end Simple
