def gtb : List Cond := lw_tbl.filter goodWord
theorem gt_at {w : Cond} (i : Nat) (h : tables_1[i]? = some w) (hg : goodWord w = true) : w ∈ gtb := List.mem_filter.mpr ⟨List.mem_append_right _ (List.mem_of_getElem? h), hg⟩
theorem gt_sel {w : Cond} (i : Nat) (h : (k2_sels lw_privs)[i]? = some w) (hg : goodWord w = true) : w ∈ gtb := List.mem_filter.mpr ⟨List.mem_append_left _ (List.mem_of_getElem? h), hg⟩
def nestL : List (String × Nat × MethodName × String) := [("KeyedTree", 9, ⟨"KeyedTree$World", "<init>", "()V"⟩, "KeyedTree"), ("KeyedTree", 21, ⟨"KeyedTree$Pad", "<init>", "()V"⟩, "KeyedTree"), ("KeyedTree", 41, ⟨"KeyedTree$Trial", "<init>", "()V"⟩, "KeyedTree"), ("KeyedTree$Trial", 11, ⟨"KeyedTree$Act", "<init>", "()V"⟩, "KeyedTree"), ("KeyedTree$Trial", 20, ⟨"KeyedTree$Tree", "<init>", "()V"⟩, "KeyedTree"), ("KeyedTree$Trial", 30, ⟨"KeyedTree$World", "<init>", "()V"⟩, "KeyedTree"), ("KeyedTree", 64, ⟨"KeyedTree$Image", "<init>", "()V"⟩, "KeyedTree"), ("KeyedTree$Image", 9, ⟨"KeyedTree$World", "<init>", "()V"⟩, "KeyedTree"), ("KeyedTree$Pad", 39, ⟨"KeyedTree", "isSet", "(I)Z"⟩, "KeyedTree"), ("KeyedTree$World", 51, ⟨"KeyedTree", "isIn", "(JI)Z"⟩, "KeyedTree"), ("KeyedTree$World", 25, ⟨"KeyedTree", "count", "(J)I"⟩, "KeyedTree"), ("KeyedTree$World", 55, ⟨"KeyedTree", "bit", "(I)J"⟩, "KeyedTree"), ("KeyedTree$World", 61, ⟨"KeyedTree", "less", "(I)J"⟩, "KeyedTree"), ("KeyedTree$Tree", 55, ⟨"KeyedTree", "priority", "(II)I"⟩, "KeyedTree"), ("KeyedTree$Tree", 45, ⟨"KeyedTree", "isIn", "(JI)Z"⟩, "KeyedTree"), ("KeyedTree$Tree", 58, ⟨"KeyedTree", "bit", "(I)J"⟩, "KeyedTree"), ("KeyedTree$Trial", 97, ⟨"KeyedTree", "isIn", "(JI)Z"⟩, "KeyedTree"), ("KeyedTree$Tree", 78, ⟨"KeyedTree", "count", "(J)I"⟩, "KeyedTree"), ("KeyedTree$Sights", 32, ⟨"KeyedTree", "ranksAbove", "(III)Z"⟩, "KeyedTree")]
def NWs (U : State) : Prop := (∀ q ∈ nestL, va_Nw (.methodLinkNest q.1 q.2.1 q.2.2.1 q.2.2.2) U) ∧ va_AO "KeyedTree$Image" U
theorem NWs.warm {s U : State} (hW : s.WarmedH U.vm) (h : NWs s) : NWs U := ⟨fun q hq => va_Nw.warmM hW (h.1 q hq), va_AO.moved hW.alike h.2⟩
theorem NWs.same {u U : State} (h : u.vm = U.vm) (hn : NWs u) : NWs U := ⟨fun q hq => va_Nw.same rfl h (hn.1 q hq), va_AO.moved (h ▸ Vm.Alike.refl u.vm) hn.2⟩
def rmm (d mc ms : Nat) : Room := { frames := d, cells := mc, slots := ms, locals := 40 * d }
abbrev CX : Type := Program × Launch × Env × Room × State × MethodId × Array Value × List Frame × Method × Code × (State → Prop) × (Nat → Prop)
abbrev xp (g : CX) : Program := g.1
abbrev xl (g : CX) : Launch := g.2.1
abbrev xe (g : CX) : Env := g.2.2.1
abbrev xR (g : CX) : Room := g.2.2.2.1
abbrev xs (g : CX) : State := g.2.2.2.2.1
abbrev xm (g : CX) : MethodId := g.2.2.2.2.2.1
abbrev xa (g : CX) : Array Value := g.2.2.2.2.2.2.1
abbrev xb (g : CX) : List Frame := g.2.2.2.2.2.2.2.1
abbrev xh (g : CX) : Method := g.2.2.2.2.2.2.2.2.1
abbrev xc (g : CX) : Code := g.2.2.2.2.2.2.2.2.2.1
abbrev xQ (g : CX) : State → Prop := g.2.2.2.2.2.2.2.2.2.2.1
abbrev xA (g : CX) : Nat → Prop := g.2.2.2.2.2.2.2.2.2.2.2
/-- the numbers of the classes, and of the arrays' classes: int, long, boolean, Image -/
abbrev EV : Type := va_G × ClassId × ClassId × ClassId × ClassId
abbrev tyE (E : EV) : List (ClassId × FieldType) := [(E.2.1, .int), (E.2.2.1, .long), (E.2.2.2.1, .boolean), (E.2.2.2.2, .object "KeyedTree$Image")]
/-- the machine comes to its end from pc, from every heap that holds the world ws and locals that hold lv -/
def WW (g : CX) (E : EV) (nL cells slots : Nat) (ws : va_W) (lv : List (Nat × Value)) (pc : Nat) (st : List Value) : Prop :=
  ∀ (H : Heap) (locs : List Loc) (ls : Array Slot), va_P E.1 vwCl ws H → va_D (xA g) ws → va_S (xA g) (xs g).heap H locs → lv_has ls nL lv → W (xp g) (xl g) (xe g) (xR g) (xs g) (xm g) (xa g) (xb g) (xh g) (xc g) H locs cells slots (xQ g) (F0 (xm g) pc ls st)
/-- what holds all through a method's walk -/
def GG (g : CX) (E : EV) (own : String) (cc : ByteArray) (nL : Nat) (ret : Option FieldType) (d mc ms : Nat) : Prop :=
  (xp g).tables.exec = Jvm.exec ∧ (xc g).code = cc ∧ (xc g).maxLocals = nL ∧ (xs g).vm.findClass own = some (xm g).cls ∧ (∀ w ∈ gtb, w.before (xa g) (xs g) = true) ∧ va_K E.1 vwCl (tyE E) (xs g) ∧ (∀ q, (xs g).heap.size ≤ q → xA g q) ∧ (d ≤ (xR g).frames ∧ 40 * d ≤ (xR g).locals ∧ mc ≤ (xR g).cells ∧ ms ≤ (xR g).slots) ∧ (xh g).sig.returnType = ret ∧ (xh g).locks = false ∧ NWs (xs g)
def QQ (E : EV) (post : Option Value → va_W → Prop) (A : Nat → Prop) : Array Value → State → Outcome → State → Prop := fun _ st oc t => (∃ (v : Option Value) (w : va_W), oc = .returned v ∧ post v w ∧ va_P E.1 vwCl w t.heap ∧ va_K E.1 vwCl (tyE E) t ∧ va_D A w) ∧ va_F A st t
def RQ (g : CX) (E : EV) (mc ms : Nat) (post : Option Value → va_W → Prop) : Prop := xQ g = MQ (xb g) (QQ E post (xA g)) (xa g) (xs g) mc ms (xA g)
def PP (E : EV) (av : List Value) (ws : va_W) (sz : Nat) : Array Value → State → Prop := va_Pc av (fun U => U.heap.size = sz ∧ va_P E.1 vwCl ws U.heap ∧ va_K E.1 vwCl (tyE E) U ∧ va_D (fun _ => True) ws ∧ NWs U)
/-- method y, called with av where the world ws stands, returns, and post holds of its answer and the world behind it -/
def Ret (l : Launch) (E : EV) (y : MethodName) (cc : ByteArray) (nL : Nat) (ret : Option FieldType) (d mc ms : Nat) (ws : va_W) (av : List Value) (post : Option Value → va_W → Prop) : Prop :=
  ∀ sz : Nat, Met l y (.code y cc nL ret :: gtb) (rmm d mc ms) (PP E av ws sz) (QQ E post (va_A ws sz)) mc ms (va_A ws sz)
/-- the same with one answer and one world behind -/
abbrev Ret1 (l : Launch) (E : EV) (y : MethodName) (cc : ByteArray) (nL : Nat) (ret : Option FieldType) (d : Nat) (ws : va_W) (av : List Value) (v : Option Value) (w : va_W) : Prop :=
  Ret l E y cc nL ret d 0 0 ws av (fun v' w' => v' = v ∧ w' = w)
theorem Ret.intro {l : Launch} {E : EV} {y : MethodName} {cc : ByteArray} {nL : Nat} {ret : Option FieldType} {d mc ms : Nat} {ws : va_W} {av : List Value} {post : Option Value → va_W → Prop} {lv : List (Nat × Value)} (hy : plainName y.cls = true) (hn : (lg_sl av).length ≤ nL) (hlv : lv_args 0 av = lv)
    (k : ∀ g : CX, xl g = l → GG g E y.cls cc nL ret d mc ms → RQ g E mc ms post → WW g E nL 0 0 ws lv 0 []) : Ret l E y cc nL ret d mc ms ws av post := by
  intro sz
  refine Met.ofW (cc := cc) (maxL := nL) (ret := ret) hy rfl ?_
  intro p e s m args below meth c s₁ B hml hv
  obtain ⟨rfl, hsz, hP, hK, hD0, hNW⟩ := hv
  subst hsz
  have hts := atoms_spec (ws := .code y cc nL ret :: gtb) B.pre
  have hl := lv_entry av (n := nL) hn
  rw [lg_entry_eq]
  rw [hlv] at hl
  exact k (p, l, e, rmm d mc ms, s, m, av.toArray, below, meth, c, MQ below (QQ E post (va_A ws s.heap.size)) av.toArray s mc ms (va_A ws s.heap.size), va_A ws s.heap.size) rfl
    ⟨B.exec, B.bytes, hml, findClass_of_methodNamed B.named, fun w hw => hts w (List.mem_cons_of_mem _ hw), hK, fun q h => Or.inr h, ⟨Nat.le_refl _, Nat.le_refl _, Nat.le_refl _, Nat.le_refl _⟩, B.returns, B.notSynchronized, hNW⟩ rfl s.heap [] _ hP hD0.self va_S.rf hl
section Base
variable {g : CX} {E : EV} {own : String} {cc : ByteArray} {nL : Nat} {ret : Option FieldType} {d mc ms cells slots : Nat} {ws ws2 : va_W} {lv lv2 : List (Nat × Value)} {pc : Nat} {st rest : List Value} {post : Option Value → va_W → Prop}
theorem w_lv (ks : List Nat) (hl : lv_pick lv ks = lv2) (k : WW g E nL cells slots ws lv2 pc st) : WW g E nL cells slots ws lv pc st := fun H locs ls hP hD hS hl' => k H locs ls hP hD hS (lv_sub hl' ks hl)
theorem w_iret {v : Int32} (G : GG g E own cc nL ret d mc ms) (hQ : RQ g E cells slots post) (hr : ret = some .int) (hp : post (some (.int v)) ws) (hd : decode cc pc = .ok (.ireturn, 1)) : WW g E nL cells slots ws lv pc [.int v] := by
  obtain ⟨hx, hb, hml, hown, hts, hK, hA, hR, hrr, hlk, hNW⟩ := G
  intro H locs ls hP hD hS hl
  rw [show xQ g = _ from hQ]
  exact W.iret (v := v) hx hb (hrr.trans hr) (fun t ht hW => ⟨⟨_, _, rfl, hp, by rw [ht]; exact hP, va_K.moved hW.alike hK, hD⟩, hS.F ht⟩) hS.2.2 hd hlk
theorem nar_z {v : Int32} (h : v = 0 ∨ v = 1) : narrow .boolean (.int v) = .int v := by rcases h with rfl | rfl <;> rfl
theorem w_zret {v : Int32} (G : GG g E own cc nL ret d mc ms) (hQ : RQ g E cells slots post) (hr : ret = some .boolean) (hz : v = 0 ∨ v = 1) (hp : post (some (.int v)) ws) (hd : decode cc pc = .ok (.ireturn, 1)) : WW g E nL cells slots ws lv pc [.int v] := by
  obtain ⟨hx, hb, hml, hown, hts, hK, hA, hR, hrr, hlk, hNW⟩ := G
  intro H locs ls hP hD hS hl
  rw [show xQ g = _ from hQ]
  exact W.zret (v := v) hx hb (hrr.trans hr) (nar_z hz) (fun t ht hW => ⟨⟨_, _, rfl, hp, by rw [ht]; exact hP, va_K.moved hW.alike hK, hD⟩, hS.F ht⟩) hS.2.2 hd hlk
theorem w_lret {v : Int64} (G : GG g E own cc nL ret d mc ms) (hQ : RQ g E cells slots post) (hr : ret = some .long) (hp : post (some (.long v)) ws) (hd : decode cc pc = .ok (.lreturn, 1)) : WW g E nL cells slots ws lv pc [.long v] := by
  obtain ⟨hx, hb, hml, hown, hts, hK, hA, hR, hrr, hlk, hNW⟩ := G
  intro H locs ls hP hD hS hl
  rw [show xQ g = _ from hQ]
  exact W.lret (v := v) hx hb (hrr.trans hr) (fun t ht hW => ⟨⟨_, _, rfl, hp, by rw [ht]; exact hP, va_K.moved hW.alike hK, hD⟩, hS.F ht⟩) hS.2.2 hd hlk
theorem w_vret (G : GG g E own cc nL ret d mc ms) (hQ : RQ g E cells slots post) (hr : ret = none) (hp : post none ws) (hd : decode cc pc = .ok (.return_, 1)) : WW g E nL cells slots ws lv pc [] := by
  obtain ⟨hx, hb, hml, hown, hts, hK, hA, hR, hrr, hlk, hNW⟩ := G
  intro H locs ls hP hD hS hl
  rw [show xQ g = _ from hQ]
  exact W.vret hx hb (hrr.trans hr) (fun t ht hW => ⟨⟨_, _, rfl, hp, by rw [ht]; exact hP, va_K.moved hW.alike hK, hD⟩, hS.F ht⟩) hS.2.2 hd hlk
end Base
