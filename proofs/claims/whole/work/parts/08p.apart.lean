section Apart
variable {s : Nat} {p q : Nat → Bool} {is : Nat → Int32} {g h : Nat}
theorem parts_eq (hM : MR is g p) (hM2 : MR is h q) (hg : g < 4) (hh : h < 4) (hs : s < 10000) {order : Nat → Int32} (hO : OrdOK order) (dig : Nat → Int64) (tall : Nat → Int32) {lo hi : Nat} (hl : lo ≤ 50) (hi50 : hi ≤ 50) :
    ∃ e order' dig' tall', f_X8_partsAt (nI s) is order dig tall (nI g) (nI h) (nI lo) (im hi) = some (e, order', dig', tall') ∧ OrdOK order' ∧ ((e = -6 ∧ lk s p q lo hi = 1) ∨ ∃ a b, IsR s p lo hi a ∧ IsR s q lo hi b ∧ ¬ dg s p lo hi = dg s q lo hi ∧ e = nI (topOf s a b)) := by
  obtain ⟨v1, e1, hV1⟩ := rootOf_eq hM hg hs (lo := lo) (hi := hi) hi50 (by omega)
  obtain ⟨v2, e2, hV2⟩ := rootOf_eq hM2 hh hs (lo := lo) (hi := hi) hi50 (by omega)
  unfold f_X8_partsAt
  rw [e1, Option.bind_some, e2, Option.bind_some]
  rcases hV1 with ⟨hn, rfl⟩ | ⟨a, ha, rfl⟩
  · rw [if_pos neg6]; exact ⟨_, _, _, _, rfl, hO, Or.inl ⟨rfl, lk_leaf (Or.inl hn)⟩⟩
  · have ha2 := ha.2.1
    rw [if_neg (nI_pos (by omega))]
    rcases hV2 with ⟨hn, rfl⟩ | ⟨b, hb, rfl⟩
    · rw [if_pos neg6]; exact ⟨_, _, _, _, rfl, hO, Or.inl ⟨rfl, lk_leaf (Or.inr hn)⟩⟩
    · have hb2 := hb.2.1
      rw [if_neg (nI_pos (by omega))]
      obtain ⟨o1, d1, t1, e3, hO1, -⟩ := digestOf_eq hM hg hs hO dig tall (lo := lo) (hi := hi) hi50 hl
      obtain ⟨o2, d2, t2, e4, hO2, -⟩ := digestOf_eq hM2 hh hs hO1 d1 t1 (lo := lo) (hi := hi) hi50 hl
      simp only [e3, e4, Option.bind_some]
      have q1 := dg_lt s p lo hi
      have q2 := dg_lt s q lo hi
      by_cases c : dg s p lo hi = dg s q lo hi
      · rw [c, if_pos rfl]; exact ⟨_, _, _, _, rfl, hO2, Or.inl ⟨rfl, lk_same c⟩⟩
      · rw [if_neg (fun w => c (nI_inj (by omega) (by omega) w))]
        have fin : ∃ e, (if nI a = nI b then some (nI a, o2, d2, t2) else Option.bind (f_X8_ranks (nI s) (nI a) (nI b)) (fun x5 => if x5 = (0 : Int32) then some (nI b, o2, d2, t2) else some (nI a, o2, d2, t2))) = some (e, o2, d2, t2) ∧ e = nI (topOf s a b) := by
          unfold topOf
          by_cases w : a = b
          · subst w; rw [if_pos rfl, rkB_irr]; exact ⟨_, rfl, rfl⟩
          · rw [if_neg (fun z => w (nI_inj (by omega) (by omega) z)), mranks2_eq hs (by omega) (by omega), Option.bind_some]
            cases hr : rkB s a b
            · have : rk s b a := (rk_tot (Ne.symm w)).resolve_right (fun z => by rw [rkB_iff.mpr z] at hr; exact absurd hr (by decide))
              rw [rkB_iff.mpr this, if_pos (show b01 false = 0 from rfl)]; exact ⟨_, rfl, rfl⟩
            · have : rkB s b a = false := by
                cases z : rkB s b a
                · rfl
                · exact absurd (rkB_iff.mp z) (rk_as (rkB_iff.mp hr))
              rw [this, if_neg (show ¬ b01 true = 0 by decide)]; exact ⟨_, rfl, rfl⟩
        obtain ⟨e, f1, f2⟩ := fin
        exact ⟨e, o2, d2, t2, f1, hO2, Or.inr ⟨a, b, ha, hb, c, f2⟩⟩
def sm (f : Nat → Nat) : Nat → Nat
  | 0 => 0
  | n + 1 => sm f n + f n
theorem sm_congr {f f' : Nat → Nat} : ∀ n, (∀ i, i < n → f i = f' i) → sm f n = sm f' n := by
  intro n
  induction n with
  | zero => intro _; rfl
  | succ n ih => intro h; rw [sm, sm, ih (fun i hi => h i (by omega)), h n (by omega)]
theorem sm_ge {f : Nat → Nat} (h : ∀ i, 1 ≤ f i) : ∀ n, n ≤ sm f n := by
  intro n
  induction n with
  | zero => exact Nat.le_refl _
  | succ n ih => have := h n; rw [sm]; omega
theorem looks8_loop (hM : MR is g p) (hM2 : MR is h q) (hg : g < 4) (hh : h < 4) (hs : s < 10000) : ∀ (M n L c : Nat) (order : Nat → Int32) (dig : Nat → Int64) (tall fr up : Nat → Int32) (lo hi : Nat → Nat), sm (fun i => 2 * (hi i - lo i) + 1) L ≤ M → M + 1 ≤ n → (∀ i, i < L → lo i ≤ hi i ∧ hi i ≤ 50 ∧ fr i = nI (lo i) ∧ up i = im (hi i)) → sm (fun i => hi i - lo i + 1) L ≤ 51 → OrdOK order →
    ∃ R, L_X8_looks_20 n (nI s) is order dig tall fr up (nI g) (nI h) (nI c) (nI L) = some R ∧ R.1 = nI (c + sm (fun i => lk s p q (lo i) (hi i)) L) ∧ OrdOK R.2.1 := by
  intro M
  induction M with
  | zero =>
    intro n L c order dig tall fr up lo hi h1 h2 h3 h4 hO
    obtain ⟨n, rfl⟩ : ∃ k, n = k + 1 := ⟨n - 1, by omega⟩
    have hL : L = 0 := by have := sm_ge (f := fun i => 2 * (hi i - lo i) + 1) (fun i => by omega) L; omega
    subst hL
    rw [L_X8_looks_20, if_pos (by decide)]
    exact ⟨_, rfl, rfl, hO⟩
  | succ M ih =>
    intro n L c order dig tall fr up lo hi h1 h2 h3 h4 hO
    obtain ⟨n, rfl⟩ : ∃ k, n = k + 1 := ⟨n - 1, by omega⟩
    rw [L_X8_looks_20]
    cases L with
    | zero => rw [if_pos (by decide)]; exact ⟨_, rfl, rfl, hO⟩
    | succ w =>
      have hw := sm_ge (f := fun i => hi i - lo i + 1) (fun i => by omega) (w + 1)
      have hw51 : w ≤ 50 := by omega
      obtain ⟨a1, a2, a3, a4⟩ := h3 w (Nat.lt_succ_self w)
      obtain ⟨e, o1, d1, t1, ep, hO1, hor⟩ := parts_eq hM hM2 hg hh hs hO dig tall (lo := lo w) (hi := hi w) (by omega) a2
      rw [lit32 0, if_neg (nI_ge (by omega) (by omega)), nI_mone, aget_nI (by omega) (by decide), Option.bind_some, aget_nI (by omega) (by decide), Option.bind_some, a3, a4, ep, Option.bind_some]
      rw [sm] at h1 h4
      rcases hor with ⟨rfl, hlk⟩ | ⟨a, b, ha, hb, hne, rfl⟩
      · rw [if_pos (show (-6 : Int32) < nI 0 by decide), nI_one]
        obtain ⟨R, e1, v1, hR⟩ := ih n w (c + 1) o1 d1 t1 fr up lo hi (by omega) (by omega) (fun i hi => h3 i (by omega)) (by omega) hO1
        refine ⟨R, e1, ?_, hR⟩
        rw [v1, sm, hlk]
        congr 1
        omega
      · have ht := top_in ha hb
        have hn0 : ¬ nI (topOf s a b) < nI 0 := nI_pos (by omega)
        have e2 : nI w + (2 : Int32) = nI (w + 2) := nI_add w 2
        have e3 : nI (topOf s a b) - (1 : Int32) = im (topOf s a b) := rfl
        rw [if_neg hn0, aset_nI (by omega) (by decide), Option.bind_some, aset_nI (by omega) (by decide), Option.bind_some, nI_one, aset_nI (by omega) (by decide), Option.bind_some, aset_nI (by omega) (by decide), Option.bind_some, nI_one, e2, e3, nI_one]
        have lo1 : ∀ i, i < w → (fun i => if i = w + 1 then topOf s a b + 1 else lo i) i = lo i := fun i hi => if_neg (by omega)
        have hi1 : ∀ i, i < w → (fun i => if i = w then topOf s a b else if i = w + 1 then hi w else hi i) i = hi i := fun i hi => by show (if i = w then _ else if i = w + 1 then _ else _) = _; rw [if_neg (by omega), if_neg (by omega)]
        have lw : (fun i => if i = w + 1 then topOf s a b + 1 else lo i) w = lo w := if_neg (by omega)
        have lw1 : (fun i => if i = w + 1 then topOf s a b + 1 else lo i) (w + 1) = topOf s a b + 1 := if_pos rfl
        have hw0 : (fun i => if i = w then topOf s a b else if i = w + 1 then hi w else hi i) w = topOf s a b := if_pos rfl
        have hw1 : (fun i => if i = w then topOf s a b else if i = w + 1 then hi w else hi i) (w + 1) = hi w := by show (if w + 1 = w then _ else if w + 1 = w + 1 then _ else _) = _; rw [if_neg (by omega), if_pos rfl]
        generalize (fun i => if i = w + 1 then topOf s a b + 1 else lo i) = lo' at lo1 lw lw1
        generalize (fun i => if i = w then topOf s a b else if i = w + 1 then hi w else hi i) = hi' at hi1 hw0 hw1
        have s1 : sm (fun i => 2 * (hi' i - lo' i) + 1) w = sm (fun i => 2 * (hi i - lo i) + 1) w := sm_congr w (fun i h => by rw [lo1 i h, hi1 i h])
        have s2 : sm (fun i => hi' i - lo' i + 1) w = sm (fun i => hi i - lo i + 1) w := sm_congr w (fun i h => by rw [lo1 i h, hi1 i h])
        have s3 : sm (fun i => lk s p q (lo' i) (hi' i)) w = sm (fun i => lk s p q (lo i) (hi i)) w := sm_congr w (fun i h => by rw [lo1 i h, hi1 i h])
        have hseg : ∀ i, i < w + 2 → lo' i ≤ hi' i ∧ hi' i ≤ 50 ∧ upd (upd fr w (nI (lo w))) (w + 1) (nI (topOf s a b + 1)) i = nI (lo' i) ∧ upd (upd up w (im (topOf s a b))) (w + 1) (im (hi w)) i = im (hi' i) := by
          intro i hi
          by_cases z1 : i = w + 1
          · subst z1; rw [lw1, hw1, upd_s, upd_s]; exact ⟨by omega, a2, rfl, rfl⟩
          · by_cases z2 : i = w
            · subst z2; rw [lw, hw0, upd_n _ _ z1, upd_n _ _ z1, upd_s, upd_s]; exact ⟨by omega, by omega, rfl, rfl⟩
            · rw [lo1 i (by omega), hi1 i (by omega), upd_n _ _ z1, upd_n _ _ z1, upd_n _ _ z2, upd_n _ _ z2]; exact h3 i (by omega)
        obtain ⟨R, e4, v4, hR⟩ := ih n (w + 2) (c + 1) o1 d1 t1 (upd (upd fr w (nI (lo w))) (w + 1) (nI (topOf s a b + 1))) (upd (upd up w (im (topOf s a b))) (w + 1) (im (hi w))) lo' hi' (by rw [sm, sm, s1, lw, lw1, hw0, hw1]; omega) (by omega) hseg (by rw [sm, sm, s2, lw, lw1, hw0, hw1]; omega) hO1
        refine ⟨R, e4, ?_, hR⟩
        rw [v4, sm, sm, sm, s3, lw, lw1, hw0, hw1, lk_node ha hb hne]
        congr 1
        omega
theorem looks8_eq (hM : MR is g p) (hM2 : MR is h q) (hg : g < 4) (hh : h < 4) (hs : s < 10000) {order : Nat → Int32} (hO : OrdOK order) (dig : Nat → Int64) (tall fr up : Nat → Int32) : ∃ R, f_X8_looks (nI s) is order dig tall fr up (nI g) (nI h) = some R ∧ R.1 = nI (lk s p q 0 50) ∧ OrdOK R.2.1 := by
  obtain ⟨R, e, v, hR⟩ := looks8_loop hM hM2 hg hh hs 200 20000 1 0 order dig tall (upd fr 0 (0 : Int32)) (upd up 0 (49 : Int32)) (fun _ => 0) (fun _ => 50) (by decide) (by omega) (fun i hi => by rw [show i = 0 by omega, upd_s, upd_s]; exact ⟨by omega, by omega, rfl, rfl⟩) (by decide) hO
  have e' : L_X8_looks_20 20000 (nI s) is order dig tall (upd fr 0 (0 : Int32)) (upd up 0 (49 : Int32)) (nI g) (nI h) (0 : Int32) (1 : Int32) = some R := e
  have a1 : aset 120 fr (0 : Int32) (0 : Int32) = some (upd fr 0 (0 : Int32)) := aset_nI (j := 0) (by decide) (by decide)
  have a2 : aset 120 up (0 : Int32) (49 : Int32) = some (upd up 0 (49 : Int32)) := aset_nI (j := 0) (by decide) (by decide)
  unfold f_X8_looks
  rw [a1, Option.bind_some, a2, Option.bind_some, e', Option.bind_some]
  refine ⟨_, rfl, ?_, hR⟩
  show R.1 = _
  rw [v]
  show nI (0 + (0 + lk s p q 0 50)) = _
  rw [Nat.zero_add, Nat.zero_add]
end Apart
section Apart2
variable {S : Nat → Nat → Bool} {keys : Nat → Int64} {is : Nat → Int32} {s : Nat}
theorem apartMany_loop {g h : Nat} {p q : Nat → Bool} (hM : MR is g p) (hM2 : MR is h q) (hg : g < 4) (hh : h < 4) : ∀ n k, k ≤ 50 → 51 ≤ k + n → L_X8_apartMany_5 n is (nI g) (nI h) (nI (cnt (fun j => p j ^^ q j) k)) (nI k) = some (nI (cnt (fun j => p j ^^ q j) 50)) := by
  intro n
  induction n with
  | zero => intro k h1 h2; omega
  | succ n ih =>
    intro k h1 h2
    rw [L_X8_apartMany_5]
    by_cases c : k = 50
    · subst c; rw [if_pos (by decide)]
    · have hc : cnt (fun j => p j ^^ q j) (k + 1) = cnt (fun j => p j ^^ q j) k + (if (p k ^^ q k) = true then 1 else 0) := rfl
      have z0 : nI (cnt (fun j => p j ^^ q j) k) + (0 : Int32) = nI (cnt (fun j => p j ^^ q j) k) := by rw [lit32 0, nI_add]; rfl
      have hih := ih (k + 1) (by omega) (by omega)
      rw [hc] at hih
      rw [lit32 50, if_neg (nI_ge (by omega) (by omega)), has_eq hM hg (by omega), Option.bind_some, has_eq hM2 hh (by omega), Option.bind_some, nI_one, z0, nI_one]
      cases hp : p k <;> cases hq : q k
      · rw [hp, hq] at hih; rw [if_pos rfl]; exact hih
      · rw [hp, hq] at hih; rw [if_neg (by decide)]; exact hih
      · rw [hp, hq] at hih; rw [if_neg (by decide)]; exact hih
      · rw [hp, hq] at hih; rw [if_pos rfl]; exact hih
theorem shared_loop (h : SetR S keys is) (hs : s < 10000) {g1 g2 : Nat} (h1 : g1 < 4) (h2 : g2 < 4) {l1 r1 a1 : Nat → Int32} {s1 : Nat → Int64} {o1 : Int32} {d1 e1 : Nat → Int32} {l2 r2 a2 : Nat → Int32} {s2 : Nat → Int64} {o2 : Int32} {d2 e2 : Nat → Int32} (hT1 : TreeOK s (S g1) l1 r1 a1 s1 o1 d1 e1) (hT2 : TreeOK s (S g2) l2 r2 a2 s2 o2 d2 e2) : ∀ n k (c : Nat), k ≤ 50 → 51 ≤ k + n → ∃ r, L_X7_shared_36 n s1 s2 (keys g1) (keys g2) (nI c) (nI k) = some r ∧ L_X8_shared_5 n (nI s) is (nI g1) (nI g2) (nI c) (nI k) = some r := by
  intro n
  induction n with
  | zero => intro k c q1 q2; omega
  | succ n ih =>
    intro k c q1 q2
    rw [L_X7_shared_36, L_X8_shared_5]
    by_cases w : k = 50
    · subst w; rw [if_pos (by decide), if_pos (by decide)]; exact ⟨_, rfl, rfl⟩
    · have hk : k < 50 := by omega
      have z0 : nI c + (0 : Int32) = nI c := by rw [lit32 0, nI_add]; rfl
      obtain ⟨ra, ea1, ea2⟩ := ih (k + 1) c (by omega) (by omega)
      obtain ⟨rb, eb1, eb2⟩ := ih (k + 1) (c + 1) (by omega) (by omega)
      rw [lit32 50, if_neg (nI_ge (by omega) (by omega)), if_neg (nI_ge (by omega) (by omega)), isIn_eq _ (by omega), bx_and, bx_key h h1 hk, bx_key h h2 hk, has_eq (h g1 h1).2.1 h1 hk, has_eq (h g2 h2).2.1 h2 hk, nI_one, z0, nI_one]
      simp only [Option.bind_some]
      cases hp : S g1 k
      · simp only [Bool.false_and, b01f, if_true]; exact ⟨ra, ea1, ea2⟩
      · cases hq : S g2 k
        · simp only [Bool.and_false, b01f, b01t, n10e, if_false, if_true]; exact ⟨ra, ea1, ea2⟩
        · obtain ⟨x, a, b, t1, ha, hb, hx⟩ := treeOf_eq (h g1 h1).2.1 h1 hs hk
          obtain ⟨y, a', b', t2, ha', hb', hy⟩ := treeOf_eq (h g2 h2).2.1 h2 hs hk
          obtain ⟨a3, b3, sg, f, -⟩ := hT1.2.1 k (by omega) hk hp
          obtain ⟨a4, b4, sg2, f2, -⟩ := hT2.2.1 k (by omega) hk hq
          have ex : x = s1 k := by
            rw [La_un ha sg.2.1, Rb_un hb sg.2.2] at hx
            exact Bits_un hx f.2.2.1
          have ey : y = s2 k := by
            rw [La_un ha' sg2.2.1, Rb_un hb' sg2.2.2] at hy
            exact Bits_un hy f2.2.2.1
          simp only [Bool.and_true, b01t, n10e, if_false, aget_nI hk (show 50 < 2 ^ 31 by decide), Option.bind_some, t1, t2, ex, ey]
          by_cases c2 : lg_cmp (s1 k) (s2 k) = 0
          · rw [if_pos c2, if_pos c2]; exact ⟨rb, eb1, eb2⟩
          · rw [if_neg c2, if_neg c2]; exact ⟨ra, ea1, ea2⟩
end Apart2
