theorem Ret.intro2 {l : Launch} {E : EV} {y : MethodName} {cc : ByteArray} {nL : Nat} {ret : Option FieldType} {d mc ms : Nat} {ws : va_W} {av : List Value} {post : Option Value → va_W → Prop} {lv : List (Nat × Value)} (hy : plainName y.cls = true) (hn : (lg_sl av).length ≤ nL) (hlv : lv_args 0 av = lv)
    (k : ∀ g : CX, xl g = l → GG g E y.cls cc nL ret d mc ms → (xh g).name = y.name → RQ g E mc ms post → WW g E nL 0 0 ws lv 0 []) : Ret l E y cc nL ret d mc ms ws av post := by
  intro sz
  refine Met.ofW (cc := cc) (maxL := nL) (ret := ret) hy rfl ?_
  intro p e s m args below meth c s₁ B hml hv
  obtain ⟨rfl, hsz, hP, hK, hD0, hNW⟩ := hv
  subst hsz
  have hts := atoms_spec (ws := .code y cc nL ret :: gtb) B.pre
  have hl := lv_entry av (n := nL) hn
  rw [lg_entry_eq]
  rw [hlv] at hl
  exact k (p, l, e, rmm d mc ms, s, m, av.toArray, below, meth, c, MQ below (QQ E post (va_A ws s.heap.size)) av.toArray s mc ms (va_A ws s.heap.size), va_A ws s.heap.size) rfl
    ⟨B.exec, B.bytes, hml, findClass_of_methodNamed B.named, fun w hw => hts w (List.mem_cons_of_mem _ hw), hK, fun q h => Or.inr h, ⟨Nat.le_refl _, Nat.le_refl _, Nat.le_refl _, Nat.le_refl _⟩, B.returns, B.notSynchronized, hNW⟩ (name_of_methodNamed B.named B.method).1 rfl s.heap [] _ hP hD0.self va_S.rf hl
def ad (L : List Nat) : Nat → Nat := fun i => L.getD i 0
section Alloc
variable {g : CX} {E : EV} {own : String} {cc : ByteArray} {nL : Nat} {ret : Option FieldType} {d mc ms cells slots cells2 slots2 : Nat} {ws ws2 : va_W} {lv lv2 : List (Nat × Value)} {pc pc2 : Nat} {st rest : List Value} {post : Option Value → va_W → Prop}
theorem w_eq (h : ws = ws2) (k : WW g E nL cells slots ws2 lv pc st) : WW g E nL cells slots ws lv pc st := by subst h; exact k
theorem w_new (G : GG g E own cc nL ret d mc ms) {idx ci : Nat} {C : String} {T : u_T} {N : Nat} {ty : Nat → FieldType} {fs : List Value} (hin : ∀ w ∈ u_ws C T N, w ∈ gtb) (Y : TOK T N ty) (hcl : Cond.classLink own idx C ∈ gtb) (hinst : Cond.instantiable C N ∈ gtb) (hini : Cond.initialized C ∈ gtb) (hc : vwCl[ci]? = some (C, T, N)) (hfs : ∀ j, j < N → defaultValue (ty j) = vp_V fs j) (hc2 : cells + 1 = cells2) (hs2 : slots + N = slots2) (hcm : cells2 ≤ mc) (hsm : slots2 ≤ ms) (hd : decode cc pc = .ok (.new idx, 3)) (hp : pc + 3 = pc2) (kk : ∀ q : Nat, WW g E nL cells2 slots2 (ws ++ [(q, .inr (ci, fs))]) lv pc2 (.ref q :: rest)) : WW g E nL cells slots ws lv pc rest := by
  subst hp; subst hc2; subst hs2
  obtain ⟨hx, hb, hml, hown, hts, hK, hA, hR, hrr, hlk, hNW⟩ := G
  exact fun H locs ls hP hD hS hl => va_new (D := E.1) (ci := ci) (fs := fs) (C := C) (T := T) (N := N) hx hb hts hin ty Y.1 hown (hts _ hcl) (hts _ hinst) (hts _ hini) hK hP hD hS hA hc hfs (Nat.le_trans hcm hR.2.2.1) (Nat.le_trans hsm hR.2.2.2) hd (fun q H hP hD hS => kk q H locs ls hP hD hS hl)
theorem fc_one {s : State} {n : String} {a b : ClassId} (h1 : s.vm.findClass n = some a) (h2 : s.vm.findClass n = some b) : a = b := Option.some.inj (h1.symm.trans h2)
theorem w_newi (G : GG g E own cc nL ret d mc ms) {n : Int32} {N : Nat} (harr : Cond.arrayClass .int ∈ gtb) (hn : ¬ n < 0) (hN : n.toNatClampNeg = N) (hbytes : N * componentBytes .int ≤ 536870912) (hc2 : cells + 1 = cells2) (hs2 : slots + N = slots2) (hcm : cells2 ≤ mc) (hsm : slots2 ≤ ms) (hd : decode cc pc = .ok (.newarray .int, 2)) (hp : pc + 2 = pc2) (kk : ∀ q : Nat, WW g E nL cells2 slots2 (ws ++ [(q, .inl (E.2.1, N, .inl (fun _ => 0)))]) lv pc2 (.ref q :: rest)) : WW g E nL cells slots ws lv pc (.int n :: rest) := by
  subst hp; subst hc2; subst hs2
  obtain ⟨hx, hb, hml, hown, hts, hK, hA, hR, hrr, hlk, hNW⟩ := G
  refine fun H locs ls hP hD hS hl => va_newa (D := E.1) (atype := .int) (ty := .int) (a0 := (N, .inl (fun _ => 0))) hx hb (hts _ harr) rfl hK hP hD hS hA (fun cA => rfl) hn hN hbytes (Nat.le_trans hcm hR.2.2.1) (Nat.le_trans hsm hR.2.2.2) hd (fun q cA H hK2 hP hD hS => ?_)
  have e1 := va_nm_int (hK2.2 4 _ rfl).2
  have e2 := va_nm_int (hK.2 0 _ rfl).2
  obtain rfl := fc_one e2 e1
  exact kk q H locs ls hP hD hS hl
theorem w_newj (G : GG g E own cc nL ret d mc ms) {n : Int32} {N : Nat} (harr : Cond.arrayClass .long ∈ gtb) (hn : ¬ n < 0) (hN : n.toNatClampNeg = N) (hbytes : N * componentBytes .long ≤ 536870912) (hc2 : cells + 1 = cells2) (hs2 : slots + N = slots2) (hcm : cells2 ≤ mc) (hsm : slots2 ≤ ms) (hd : decode cc pc = .ok (.newarray .long, 2)) (hp : pc + 2 = pc2) (kk : ∀ q : Nat, WW g E nL cells2 slots2 (ws ++ [(q, .inl (E.2.2.1, N, .inr (.inl (fun _ => 0))))]) lv pc2 (.ref q :: rest)) : WW g E nL cells slots ws lv pc (.int n :: rest) := by
  subst hp; subst hc2; subst hs2
  obtain ⟨hx, hb, hml, hown, hts, hK, hA, hR, hrr, hlk, hNW⟩ := G
  refine fun H locs ls hP hD hS hl => va_newa (D := E.1) (atype := .long) (ty := .long) (a0 := (N, .inr (.inl (fun _ => 0)))) hx hb (hts _ harr) rfl hK hP hD hS hA (fun cA => rfl) hn hN hbytes (Nat.le_trans hcm hR.2.2.1) (Nat.le_trans hsm hR.2.2.2) hd (fun q cA H hK2 hP hD hS => ?_)
  have e1 := va_nm_long (hK2.2 4 _ rfl).2
  have e2 := va_nm_long (hK.2 1 _ rfl).2
  obtain rfl := fc_one e2 e1
  exact kk q H locs ls hP hD hS hl
theorem w_newz (G : GG g E own cc nL ret d mc ms) {n : Int32} {N : Nat} (harr : Cond.arrayClass .boolean ∈ gtb) (hn : ¬ n < 0) (hN : n.toNatClampNeg = N) (hbytes : N * componentBytes .boolean ≤ 536870912) (hc2 : cells + 1 = cells2) (hs2 : slots + N = slots2) (hcm : cells2 ≤ mc) (hsm : slots2 ≤ ms) (hd : decode cc pc = .ok (.newarray .boolean, 2)) (hp : pc + 2 = pc2) (kk : ∀ q : Nat, WW g E nL cells2 slots2 (ws ++ [(q, .inl (E.2.2.2.1, N, .inl (fun _ => 0)))]) lv pc2 (.ref q :: rest)) : WW g E nL cells slots ws lv pc (.int n :: rest) := by
  subst hp; subst hc2; subst hs2
  obtain ⟨hx, hb, hml, hown, hts, hK, hA, hR, hrr, hlk, hNW⟩ := G
  refine fun H locs ls hP hD hS hl => va_newa (D := E.1) (atype := .boolean) (ty := .boolean) (a0 := (N, .inl (fun _ => 0))) hx hb (hts _ harr) rfl hK hP hD hS hA (fun cA => rfl) hn hN hbytes (Nat.le_trans hcm hR.2.2.1) (Nat.le_trans hsm hR.2.2.2) hd (fun q cA H hK2 hP hD hS => ?_)
  have e1 := va_nm_boolean (hK2.2 4 _ rfl).2
  have e2 := va_nm_boolean (hK.2 2 _ rfl).2
  obtain rfl := fc_one e2 e1
  exact kk q H locs ls hP hD hS hl
theorem w_newq (G : GG g E own cc nL ret d mc ms) {idx : Nat} {n : Int32} {N : Nat} (hcl : Cond.classLink own idx "KeyedTree$Image" ∈ gtb) (hn : ¬ n < 0) (hN : n.toNatClampNeg = N) (hbytes : N * 4 ≤ 536870912) (hc2 : cells + 1 = cells2) (hs2 : slots + N = slots2) (hcm : cells2 ≤ mc) (hsm : slots2 ≤ ms) (hd : decode cc pc = .ok (.anewarray idx, 3)) (hp : pc + 3 = pc2) (kk : ∀ q : Nat, WW g E nL cells2 slots2 (ws ++ [(q, .inl (E.2.2.2.2, N, .inr (.inr (.inr (.inr (fun _ => none))))))]) lv pc2 (.ref q :: rest)) : WW g E nL cells slots ws lv pc (.int n :: rest) := by
  subst hp; subst hc2; subst hs2
  obtain ⟨hx, hb, hml, hown, hts, hK, hA, hR, hrr, hlk, hNW⟩ := G
  refine fun H locs ls hP hD hS hl => va_newq (D := E.1) hx hb hown (hts _ hcl) hNW.2 hK hP hD hS hA hn hN hbytes (Nat.le_trans hcm hR.2.2.1) (Nat.le_trans hsm hR.2.2.2) hd (fun q cA H hK2 hP hD hS => ?_)
  obtain ⟨_, _, _, _, _, e1⟩ := (hK2.2 4 _ rfl).2
  obtain ⟨_, _, _, _, _, e2⟩ := (hK.2 3 _ rfl).2
  obtain rfl := fc_one e2 e1
  exact kk q H locs ls hP hD hS hl
theorem w_aastore (G : GG g E own cc nL ret d mc ms) {a n v : Nat} {f : Nat → Option Nat} {i : Int32} {vs : List Value} (q0 qk : Nat) (ha : ws[q0]? = some (a, .inl (E.2.2.2.2, n, .inr (.inr (.inr (.inr f)))))) (hv : ws[qk]? = some (v, .inr (1, vs))) (hin : vp_in i n) (hw : ws.set q0 (a, .inl (E.2.2.2.2, n, .inr (.inr (.inr (.inr (va_up f i.toNatClampNeg (some v))))))) = ws2) (hd : decode cc pc = .ok (.aastore, 1)) (hp : pc + 1 = pc2) (kk : WW g E nL cells slots ws2 lv pc2 rest) : WW g E nL cells slots ws lv pc (.ref v :: .int i :: .ref a :: rest) := by
  subst hp; subst hw
  exact fun H locs ls hP hD hS hl => va_astq G.1 G.2.1 G.2.2.2.2.2.1 hP hD hS q0 3 qk 1 (r := (RX1, TX1, 3)) ha rfl hv rfl hin hd (fun H locs hP hD hS => kk H locs ls hP hD hS hl)
theorem w_putF (G : GG g E own cc nL ret d mc ms) (hin2 : (xh g).name = "<init>") {idx ci k : Nat} {C : String} {T : u_T} {N a : Nat} {fs : List Value} {v : Value} {ty : Nat → FieldType} (F : FOK own idx ci k C T N) (Y : TOK T N ty) (q0 : Nat) (he : ws[q0]? = some (a, .inr (ci, fs))) (hfin : (T k).2.2.2 = true) (hdecl : (T k).1 = own) (hnar : narrow (ty k) v = v) (hfit : fits (ty k) v = true) (hlen : k < fs.length) (hw : ws.set q0 (a, .inr (ci, fs.set k v)) = ws2) (hd : decode cc pc = .ok (.putfield idx, 3)) (hp : pc + 3 = pc2) (kk : WW g E nL cells slots ws2 lv pc2 rest) : WW g E nL cells slots ws lv pc (v :: .ref a :: rest) := by
  subst hp; subst hw
  obtain ⟨hx, hb, hml, hown, hts, hK, hA, hR, hrr, hlk, hNW⟩ := G
  exact fun H locs ls hP hD hS hl => va_putF (D := E.1) (ci := ci) (v := v) (ty := ty k) (C := C) (T := T) (N := N) hx hb hts F.2.2.1 ty Y.1 Y.2 hown hK hP hD hS q0 he F.1 k F.2.1 (hts _ F.2.2.2) (fun _ h9 => h9) hfin hin2 hdecl (Y.1 k F.2.1) hnar hfit hlen hd (fun H locs hP hD hS => kk H locs ls hP hD hS hl)
theorem w_objI (G : GG g E own cc nL ret d mc ms) {idx a : Nat} (hL : Cond.methodLink own idx Lib.objectInit ∈ gtb) (hI : Cond.instanceMethod Lib.objectInit ∈ gtb) (hC : Cond.code Lib.objectInit ⟨#[0xb1]⟩ 1 none ∈ gtb) (h1 : 1 ≤ d) (hr : (rest.map fun v => v.category).sum + 12 ≤ 40) (hd : decode cc pc = .ok (.invokespecial idx, 3)) (hp : pc + 3 = pc2) (kk : WW g E nL cells slots ws lv pc2 rest) : WW g E nL cells slots ws lv pc (.ref a :: rest) := by
  subst hp
  obtain ⟨hx, hb, hml, hown, hts, hK, hA, hR, hrr, hlk, hNW⟩ := G
  exact fun H locs ls hP hD hS hl => W.objInit hx hb hown (hts _ hL) (hts _ hI) (hts _ hC) rfl (by rw [hml]; exact hl.1) rfl hd (Nat.le_trans h1 hR.1) (Nat.le_trans (by show 2 * 0 + _ + 12 ≤ 40 * d; omega) hR.2.1) (kk H locs ls hP hD hS hl)
end Alloc
