/-! the pure words: none where the machine would throw -/
def aget {α : Type} (n : Nat) (f : Nat → α) (i : Int32) : Option α := if i < 0 ∨ n ≤ i.toNatClampNeg then none else some (f i.toNatClampNeg)
def aset (n : Nat) (f : Nat → Int32) (i x : Int32) : Option (Nat → Int32) := if i < 0 ∨ n ≤ i.toNatClampNeg then none else some (upd f i.toNatClampNeg x)
def asetL (n : Nat) (f : Nat → Int64) (i : Int32) (x : Int64) : Option (Nat → Int64) := if i < 0 ∨ n ≤ i.toNatClampNeg then none else some (vp_updL f i.toNatClampNeg x)
def asetZ (n : Nat) (f : Nat → Int32) (i x : Int32) : Option (Nat → Int32) := if i < 0 ∨ n ≤ i.toNatClampNeg then none else some (upd f i.toNatClampNeg (vp_nar .boolean x))
def jdiv (x y : Int32) : Option Int32 := if y = 0 then none else some (x / y)
def jrem (x y : Int32) : Option Int32 := if y = 0 then none else some (x - x / y * y)
def jdivL (x y : Int64) : Option Int64 := if y = 0 then none else some (x / y)
def jremL (x y : Int64) : Option Int64 := if y = 0 then none else some (x - x / y * y)
def bz (v : Int32) : Option Int32 := if v = 0 ∨ v = 1 then some v else none
theorem bz_some {v w : Int32} (h : bz v = some w) : v = 0 ∨ v = 1 := by
  unfold bz at h
  by_cases c : v = 0 ∨ v = 1
  · exact c
  · rw [if_neg c] at h; cases h
theorem bs {α β : Type} {x : Option α} {f : α → Option β} {r : β} (h : Option.bind x f = some r) : ∃ a, x = some a ∧ f a = some r := Option.bind_eq_some_iff.mp h
theorem no_some {α : Type} {P : Prop} {r : α} (h : (none : Option α) = some r) : P := by cases h
theorem gd_some {α : Type} {c : Prop} [Decidable c] {x : α} {r : α} (h : (if c then none else some x) = some r) : ¬ c ∧ x = r := by
  by_cases k : c
  · rw [if_pos k] at h; cases h
  · rw [if_neg k] at h; cases h; exact ⟨k, rfl⟩
theorem look_out {ps : List (Int × Int)} {dflt x : Int} (h : (ps.all (fun q => decide (x ≠ q.1))) = true) : Op.lookupswitch.offset ps dflt x = dflt := by
  induction ps with
  | nil => rfl
  | cons q ps ih =>
    obtain ⟨a, o⟩ := q
    simp only [List.all_cons, Bool.and_eq_true, decide_eq_true_eq] at h
    rw [Op.lookupswitch.offset_cons, if_neg (fun e => h.1 e.symm)]
    exact ih h.2
section Base3
variable {g : CX} {E : EV} {own : String} {cc : ByteArray} {nL : Nat} {ret : Option FieldType} {d mc ms cells slots : Nat} {ws ws2 : va_W} {lv lv2 : List (Nat × Value)} {pc pc2 : Nat} {st rest : List Value}
theorem w_ialdo (G : GG g E own cc nL ret d mc ms) {a n : Nat} {f : Nat → Int32} {i v : Int32} (q0 : Nat) (ha : ws[q0]? = some (a, .inl (E.2.1, n, .inl f))) (hg : aget n f i = some v) (hd : decode cc pc = .ok (.iaload, 1)) (hp : pc + 1 = pc2) (kk : WW g E nL cells slots ws lv pc2 (.int v :: rest)) : WW g E nL cells slots ws lv pc (.int i :: .ref a :: rest) := by
  obtain ⟨h1, rfl⟩ := gd_some hg
  exact w_iald G q0 ha h1 hd hp kk
theorem w_zaldo (G : GG g E own cc nL ret d mc ms) {a n : Nat} {f : Nat → Int32} {i v : Int32} (q0 : Nat) (ha : ws[q0]? = some (a, .inl (E.2.2.2.1, n, .inl f))) (hg : aget n f i = some v) (hd : decode cc pc = .ok (.baload, 1)) (hp : pc + 1 = pc2) (kk : WW g E nL cells slots ws lv pc2 (.int v :: rest)) : WW g E nL cells slots ws lv pc (.int i :: .ref a :: rest) := by
  obtain ⟨h1, rfl⟩ := gd_some hg
  exact w_zald G q0 ha h1 hd hp kk
theorem w_laldo (G : GG g E own cc nL ret d mc ms) {a n : Nat} {f : Nat → Int64} {i : Int32} {v : Int64} (q0 : Nat) (ha : ws[q0]? = some (a, .inl (E.2.2.1, n, .inr (.inl f)))) (hg : aget n f i = some v) (hd : decode cc pc = .ok (.laload, 1)) (hp : pc + 1 = pc2) (kk : WW g E nL cells slots ws lv pc2 (.long v :: rest)) : WW g E nL cells slots ws lv pc (.int i :: .ref a :: rest) := by
  obtain ⟨h1, rfl⟩ := gd_some hg
  exact w_lald G q0 ha h1 hd hp kk
theorem w_iasto (G : GG g E own cc nL ret d mc ms) {a n : Nat} {f f2 : Nat → Int32} {i x : Int32} (q0 : Nat) (ha : ws[q0]? = some (a, .inl (E.2.1, n, .inl f))) (hg : aset n f i x = some f2) (hw : ws.set q0 (a, .inl (E.2.1, n, .inl f2)) = ws2) (hd : decode cc pc = .ok (.iastore, 1)) (hp : pc + 1 = pc2) (kk : WW g E nL cells slots ws2 lv pc2 rest) : WW g E nL cells slots ws lv pc (.int x :: .int i :: .ref a :: rest) := by
  obtain ⟨h1, rfl⟩ := gd_some hg
  exact w_iast G q0 ha h1 hw hd hp kk
theorem w_zasto (G : GG g E own cc nL ret d mc ms) {a n : Nat} {f f2 : Nat → Int32} {i x : Int32} (q0 : Nat) (ha : ws[q0]? = some (a, .inl (E.2.2.2.1, n, .inl f))) (hg : asetZ n f i x = some f2) (hw : ws.set q0 (a, .inl (E.2.2.2.1, n, .inl f2)) = ws2) (hd : decode cc pc = .ok (.bastore, 1)) (hp : pc + 1 = pc2) (kk : WW g E nL cells slots ws2 lv pc2 rest) : WW g E nL cells slots ws lv pc (.int x :: .int i :: .ref a :: rest) := by
  obtain ⟨h1, rfl⟩ := gd_some hg
  exact w_zast G q0 ha h1 hw hd hp kk
theorem w_lasto (G : GG g E own cc nL ret d mc ms) {a n : Nat} {f f2 : Nat → Int64} {i : Int32} {x : Int64} (q0 : Nat) (ha : ws[q0]? = some (a, .inl (E.2.2.1, n, .inr (.inl f)))) (hg : asetL n f i x = some f2) (hw : ws.set q0 (a, .inl (E.2.2.1, n, .inr (.inl f2))) = ws2) (hd : decode cc pc = .ok (.lastore, 1)) (hp : pc + 1 = pc2) (kk : WW g E nL cells slots ws2 lv pc2 rest) : WW g E nL cells slots ws lv pc (.long x :: .int i :: .ref a :: rest) := by
  obtain ⟨h1, rfl⟩ := gd_some hg
  exact w_last G q0 ha h1 hw hd hp kk
theorem w_idivo (G : GG g E own cc nL ret d mc ms) {x y v : Int32} (hg : jdiv x y = some v) (hd : decode cc pc = .ok (.idiv, 1)) (hp : pc + 1 = pc2) (k : WW g E nL cells slots ws lv pc2 (.int v :: rest)) : WW g E nL cells slots ws lv pc (.int y :: .int x :: rest) := by
  obtain ⟨h1, rfl⟩ := gd_some hg
  exact w_idiv G hd h1 hp k
theorem w_iremo (G : GG g E own cc nL ret d mc ms) {x y v : Int32} (hg : jrem x y = some v) (hd : decode cc pc = .ok (.irem, 1)) (hp : pc + 1 = pc2) (k : WW g E nL cells slots ws lv pc2 (.int v :: rest)) : WW g E nL cells slots ws lv pc (.int y :: .int x :: rest) := by
  obtain ⟨h1, rfl⟩ := gd_some hg
  exact w_irem G hd h1 hp k
theorem w_ldivo (G : GG g E own cc nL ret d mc ms) {x y v : Int64} (hg : jdivL x y = some v) (hd : decode cc pc = .ok (.ldiv, 1)) (hp : pc + 1 = pc2) (k : WW g E nL cells slots ws lv pc2 (.long v :: rest)) : WW g E nL cells slots ws lv pc (.long y :: .long x :: rest) := by
  obtain ⟨h1, rfl⟩ := gd_some hg
  exact w_ldiv G hd h1 hp k
theorem w_lremo (G : GG g E own cc nL ret d mc ms) {x y v : Int64} (hg : jremL x y = some v) (hd : decode cc pc = .ok (.lrem, 1)) (hp : pc + 1 = pc2) (k : WW g E nL cells slots ws lv pc2 (.long v :: rest)) : WW g E nL cells slots ws lv pc (.long y :: .long x :: rest) := by
  obtain ⟨h1, rfl⟩ := gd_some hg
  exact w_lrem G hd h1 hp k
end Base3
