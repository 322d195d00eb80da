section AlikeTwo
theorem MK_new : ∀ a b c d e f a' b' c' d' e' f' : Bool, (MK a b c d e f) &&& ((MK a' b' c' d' e' f') ^^^ (-1)) = MK (a && !a') (b && !b') (c && !c') (d && !d') (e && !e') (f && !f') := by decide +kernel
def lo6 (a b c d e : Bool) : Nat := if a then 1 else if b then 2 else if c then 3 else if d then 6 else if e then 7 else 11
def pr6 (a b c d e : Bool) : Nat := if a then 1 else if b then 2 else if c then 3 else if d then 12 else if e then 13 else 23
theorem MK_zero : ∀ a b c d e f : Bool, (MK a b c d e f = 0) ↔ (a || b || c || d || e || f) = false := by decide +kernel
theorem least_eq : ∀ a b c d e f : Bool, (a || b || c || d || e || f) = true → L_X8_leastOf_2 20000 (MK a b c d e f) 0 = some (nI (lo6 a b c d e)) := by decide +kernel
theorem pair_eq : ∀ a b c d e : Bool, (10 : Int32) * (nI (lo6 a b c d e) / 4) + (nI (lo6 a b c d e) - nI (lo6 a b c d e) / 4 * 4) = nI (pr6 a b c d e) := by decide +kernel
def sk (acts : Int32) (x : Int32 × Int32) (t : Bool) (v : Nat) : Int32 × Int32 := if x.1 = -6 then (if t then (acts, nI v) else x) else x
theorem bd2 (X : Int32 × Int32) : (some X).bind (fun x1 => some (x1.1, x1.2)) = some X := rfl
section S11
variable {ak bk : Nat → Int64} {acts : Int32}
def tn (ak bk : Nat → Int64) (g o : Nat) : Bool := al ak g o && !al bk g o
theorem s11 {g o : Nat} (hg : g < 4) (ho : o < 4) (n : Nat) (x : Int32 × Int32) : L_X5_seekAlike_11 (n + 1) ak bk acts x.1 x.2 (nI g) (nI o) = L_X5_seekAlike_11 n ak bk acts (sk acts x (tn ak bk g o) (10 * g + o)).1 (sk acts x (tn ak bk g o) (10 * g + o)).2 (nI g) (nI (o + 1)) := by
  rw [L_X5_seekAlike_11, lit32 4, if_neg (nI_ge (by omega) (by omega)), same_eq hg ho, Option.bind_some, same_eq hg ho, Option.bind_some, lit32 10, pk_mul, nI_add, nI_one]
  unfold sk tn
  by_cases c : x.1 = -6
  · rw [if_pos c, if_pos c]
    cases al ak g o
    · rw [b01f, if_pos rfl]; rfl
    · rw [b01t, if_neg (by decide)]
      cases al bk g o
      · rw [b01f, if_pos rfl]; rfl
      · rw [b01t, if_neg (by decide)]; rfl
  · rw [if_neg c, if_neg c]
theorem s11e (g : Int32) (n : Nat) (x : Int32 × Int32) : L_X5_seekAlike_11 (n + 1) ak bk acts x.1 x.2 g (nI 4) = some x := by
  rw [L_X5_seekAlike_11, if_pos (by decide)]
theorem srow0 (n : Nat) (x : Int32 × Int32) : L_X5_seekAlike_11 (n + 4) ak bk acts x.1 x.2 (nI 0) (nI 1) = some (sk acts (sk acts (sk acts x (tn ak bk 0 1) 1) (tn ak bk 0 2) 2) (tn ak bk 0 3) 3) := by
  rw [s11 (by omega) (by omega), s11 (by omega) (by omega), s11 (by omega) (by omega), s11e]
theorem srow1 (n : Nat) (x : Int32 × Int32) : L_X5_seekAlike_11 (n + 3) ak bk acts x.1 x.2 (nI 1) (nI 2) = some (sk acts (sk acts x (tn ak bk 1 2) 12) (tn ak bk 1 3) 13) := by
  rw [s11 (by omega) (by omega), s11 (by omega) (by omega), s11e]
theorem srow2 (n : Nat) (x : Int32 × Int32) : L_X5_seekAlike_11 (n + 2) ak bk acts x.1 x.2 (nI 2) (nI 3) = some (sk acts x (tn ak bk 2 3) 23) := by
  rw [s11 (by omega) (by omega), s11e]
theorem s2s (n : Nat) (x y : Int32 × Int32) {g : Nat} (hg : g < 4) (e : L_X5_seekAlike_11 20000 ak bk acts x.1 x.2 (nI g) (nI (g + 1)) = some y) : L_X5_seekAlike_2 (n + 1) ak bk acts x.1 x.2 (nI g) = L_X5_seekAlike_2 n ak bk acts y.1 y.2 (nI (g + 1)) := by
  rw [L_X5_seekAlike_2, lit32 4, if_neg (nI_ge (by omega) (by omega)), nI_one, e, Option.bind_some]
theorem seek_eq (x : Int32 × Int32) : f_X5_seekAlike ak bk acts x.1 x.2 = some (sk acts (sk acts (sk acts (sk acts (sk acts (sk acts x (tn ak bk 0 1) 1) (tn ak bk 0 2) 2) (tn ak bk 0 3) 3) (tn ak bk 1 2) 12) (tn ak bk 1 3) 13) (tn ak bk 2 3) 23) := by
  have t : ∀ n, L_X5_seekAlike_2 (n + 5) ak bk acts x.1 x.2 (nI 0) = some (sk acts (sk acts (sk acts (sk acts (sk acts (sk acts x (tn ak bk 0 1) 1) (tn ak bk 0 2) 2) (tn ak bk 0 3) 3) (tn ak bk 1 2) 12) (tn ak bk 1 3) 13) (tn ak bk 2 3) 23) := fun n => by
    rw [s2s (n + 4) x _ (by omega) (srow0 19996 x), s2s (n + 3) _ _ (by omega) (srow1 19997 _), s2s (n + 2) _ _ (by omega) (srow2 19998 _), s2s (n + 1) _ _ (by omega) (s11e (nI 3) 19999 _), L_X5_seekAlike_2, if_pos (by decide)]
  unfold f_X5_seekAlike
  rw [(show L_X5_seekAlike_2 20000 ak bk acts x.1 x.2 0 = _ from t 19995)]
  exact bd2 _
theorem sk_f (x : Int32 × Int32) (v : Nat) : sk acts x false v = x := by unfold sk; by_cases c : x.1 = -6; rw [if_pos c]; rfl; rw [if_neg c]
theorem sk_n (x : Int32 × Int32) (t : Bool) (v : Nat) (c : ¬ x.1 = -6) : sk acts x t v = x := by unfold sk; rw [if_neg c]
theorem sk_t (x : Int32 × Int32) (v : Nat) (c : x.1 = -6) : sk acts x true v = (acts, nI v) := by unfold sk; rw [if_pos c]; rfl
theorem sk6 (x : Int32 × Int32) (hacts : ¬ acts = -6) (a b c d e f : Bool) : sk acts (sk acts (sk acts (sk acts (sk acts (sk acts x a 1) b 2) c 3) d 12) e 13) f 23 = (if (a || b || c || d || e || f) = true ∧ x.1 = -6 then (acts, nI (pr6 a b c d e)) else x) := by
  by_cases h : x.1 = -6
  · have hn : ∀ v t w, sk acts (acts, nI v) t w = (acts, nI v) := fun v t w => sk_n (acts, nI v) t w hacts
    cases a
    · rw [sk_f]
      cases b
      · rw [sk_f]
        cases c
        · rw [sk_f]
          cases d
          · rw [sk_f]
            cases e
            · rw [sk_f]
              cases f
              · rw [sk_f, if_neg (fun q => absurd q.1 (by decide))]
              · rw [sk_t _ _ h, if_pos ⟨rfl, h⟩]; rfl
            · rw [sk_t _ _ h, hn, if_pos ⟨rfl, h⟩]; rfl
          · rw [sk_t _ _ h, hn, hn, if_pos ⟨rfl, h⟩]; rfl
        · rw [sk_t _ _ h, hn, hn, hn, if_pos ⟨rfl, h⟩]; rfl
      · rw [sk_t _ _ h, hn, hn, hn, hn, if_pos ⟨rfl, h⟩]; rfl
    · rw [sk_t _ _ h, hn, hn, hn, hn, hn, if_pos ⟨rfl, h⟩]; rfl
  · rw [sk_n _ _ _ h, sk_n _ _ _ h, sk_n _ _ _ h, sk_n _ _ _ h, sk_n _ _ _ h, sk_n _ _ _ h, if_neg (fun q => h q.2)]
end S11
end AlikeTwo
