/-! constructors: a world that grows, a list of cells -/
def UC (D : va_G) (A : Nat → Prop) (X : CX) (ws : va_W) (nc ns pc : Nat) (lv : List (Nat × Value)) (st : List Value) : Prop := match X with
  | (p, l, e, R, s, m, args, below, meth, c, _, _, Q) => ∀ (H : Heap) (locs : List Loc) (ls : Array Slot), va_P D vwCl ws H → va_D A ws → va_S A s.heap H locs → lv_has ls c.maxLocals lv → W p l e R s m args below meth c H locs nc ns Q (F0 m pc ls st)
def CU (D : va_G) (tys : List (ClassId × FieldType)) (A : Nat → Prop) (l0 : Launch) (X : CX) (cc : ByteArray) (nL : Nat) (own : String) (rm : Room) : Prop := match X with
  | (p, l, _, R, s, m, args, _, _, c, _, _, _) => p.tables.exec = Jvm.exec ∧ c.code = cc ∧ c.maxLocals = nL ∧ s.vm.findClass own = some m.cls ∧ (∀ w ∈ lw_g, w.before args s = true) ∧ va_K D vwCl tys s ∧ R = rm ∧ l = l0 ∧ (∀ q, s.heap.size ≤ q → A q)
def IN (X : CX) : Prop := match X with
  | (_, _, _, _, _, _, _, _, meth, _, _, _, _) => meth.name = "<init>"
def PW (D : va_G) (tys : List (ClassId × FieldType)) (A : Nat → Prop) (ws : va_W) (U : State) : Prop := va_P D vwCl ws U.heap ∧ va_K D vwCl tys U ∧ va_D A ws ∧ (∀ q, U.heap.size ≤ q → A q)
section CTOR
variable {D : va_G} {tys : List (ClassId × FieldType)} {A : Nat → Prop} {l0 : Launch} {X : CX} {cc : ByteArray} {nL : Nat} {own : String} {rm : Room} {ws : va_W} {nc ns pc : Nat} {lv : List (Nat × Value)} {st : List Value}
theorem u_aload_n (C : CU D tys A l0 X cc nL own rm) (j : Nat) {i : Fin 4} {x : Nat} (hd : decode cc pc = .ok (.aload_n i, 1)) (hj : lv[j]? = some ((i : Nat), .ref x)) (k : UC D A X ws nc ns (pc + 1) lv (.ref x :: st)) : UC D A X ws nc ns pc lv st := by
  obtain ⟨p, l, e, R, s, m, args, below, meth, c, nc0, ns0, Q⟩ := X
  obtain ⟨hx, hb, hml, hown, hts, hK, hR, hl0, hA⟩ := C
  intro H locs ls h2 h3 h4 h5
  exact lv_aload_n hx hb hd rfl (lv_at h5 j hj) (k H locs ls h2 h3 h4 h5)
theorem u_iconst (C : CU D tys A l0 X cc nL own rm) {n : Int} {v : Int32} (hd : decode cc pc = .ok (.iconst n, 1)) (hv : Int32.ofInt n = v) (k : UC D A X ws nc ns (pc + 1) lv (.int v :: st)) : UC D A X ws nc ns pc lv st := by
  obtain ⟨p, l, e, R, s, m, args, below, meth, c, nc0, ns0, Q⟩ := X
  obtain ⟨hx, hb, hml, hown, hts, hK, hR, hl0, hA⟩ := C
  intro H locs ls h2 h3 h4 h5
  exact lv_iconst hx hb hd hv (k H locs ls h2 h3 h4 h5)
theorem u_bipush (C : CU D tys A l0 X cc nL own rm) {n : Int} {v : Int32} (hd : decode cc pc = .ok (.bipush n, 2)) (hv : (Int8.ofInt n).toInt32 = v) (k : UC D A X ws nc ns (pc + 2) lv (.int v :: st)) : UC D A X ws nc ns pc lv st := by
  obtain ⟨p, l, e, R, s, m, args, below, meth, c, nc0, ns0, Q⟩ := X
  obtain ⟨hx, hb, hml, hown, hts, hK, hR, hl0, hA⟩ := C
  intro H locs ls h2 h3 h4 h5
  exact lv_bipush hx hb hd hv (k H locs ls h2 h3 h4 h5)
theorem u_sipush (C : CU D tys A l0 X cc nL own rm) {n : Int} {v : Int32} (hd : decode cc pc = .ok (.sipush n, 3)) (hv : (Int16.ofInt n).toInt32 = v) (k : UC D A X ws nc ns (pc + 3) lv (.int v :: st)) : UC D A X ws nc ns pc lv st := by
  obtain ⟨p, l, e, R, s, m, args, below, meth, c, nc0, ns0, Q⟩ := X
  obtain ⟨hx, hb, hml, hown, hts, hK, hR, hl0, hA⟩ := C
  intro H locs ls h2 h3 h4 h5
  exact lv_sipush hx hb hd hv (k H locs ls h2 h3 h4 h5)
theorem u_dup (C : CU D tys A l0 X cc nL own rm) {v : Value} (hd : decode cc pc = .ok (.dup, 1)) (hv : v.category = 1) (k : UC D A X ws nc ns (pc + 1) lv (v :: v :: st)) : UC D A X ws nc ns pc lv (v :: st) := by
  obtain ⟨p, l, e, R, s, m, args, below, meth, c, nc0, ns0, Q⟩ := X
  obtain ⟨hx, hb, hml, hown, hts, hK, hR, hl0, hA⟩ := C
  intro H locs ls h2 h3 h4 h5
  exact lv_dup hx hb hd hv (k H locs ls h2 h3 h4 h5)
theorem u_astore_n (C : CU D tys A l0 X cc nL own rm) {f : Fin 4} {i x : Nat} (hd : decode cc pc = .ok (.astore_n f, 1)) (hf : (f : Nat) = i) (hi : i < nL) (k : UC D A X ws nc ns (pc + 1) ((i, Value.ref x) :: lv.filter (fun q => !(q.1 == i) && !(q.1 + 1 == i && q.2.category == 2))) st) : UC D A X ws nc ns pc lv (.ref x :: st) := by
  obtain ⟨p, l, e, R, s, m, args, below, meth, c, nc0, ns0, Q⟩ := X
  obtain ⟨hx, hb, hml, hown, hts, hK, hR, hl0, hA⟩ := C
  intro H locs ls h2 h3 h4 h5
  subst hml
  exact lv_astore_n hx hb hd hf h5 hi rfl (fun ls hl => k H locs ls h2 h3 h4 hl)
theorem u_obj (C : CU D tys A l0 X cc nL own rm) {a index : Nat} (hw : Cond.methodLink own index objectInit ∈ lw_g) (w1 : Cond.instanceMethod objectInit ∈ lw_g) (w2 : Cond.code objectInit ⟨#[0xb1]⟩ 1 none ∈ lw_g) (hd : decode cc pc = .ok (.invokespecial index, 3)) (hf : 1 ≤ rm.frames) (hl : (st.map fun v => v.category).sum + 12 ≤ rm.locals) (k : UC D A X ws nc ns (pc + 3) lv st) : UC D A X ws nc ns pc lv (.ref a :: st) := by
  obtain ⟨p, l, e, R, s, m, args, below, meth, c, nc0, ns0, Q⟩ := X
  obtain ⟨hx, hb, hml, hown, hts, hK, hR, hl0, hA⟩ := C
  intro H locs ls h2 h3 h4 h5
  subst hR
  refine W.objInit hx hb hown (hts _ hw) (hts _ w1) (hts _ w2) rfl h5.1 rfl hd hf (by show 2 * 0 + _ + 12 ≤ _; omega) ?_
  exact k H locs ls h2 h3 h4 h5
/-- a new array of a primitive type whose kind the tables know -/
theorem u_newa (C : CU D tys A l0 X cc nL own rm) {atype : ArrayType} {ty : FieldType} (hty : newarray.typeOf atype = ty) (hw : Cond.arrayClass ty ∈ lw_g) (t0 : Nat) {cA : ClassId} (ht : tys[t0]? = some (cA, ty)) (hprim : ∀ C, ty ≠ .object C) {n : Int32} {N : Nat} {a0 : vp_A} (ha : ∀ cA : ClassId, vp_cell cA a0 = arrV cA N (fun _ => defaultValue ty)) (hn : ¬ n < 0) (hN : n.toNatClampNeg = N) (hbytes : N * componentBytes ty ≤ 536870912) (hc : nc + 1 ≤ rm.cells) (hs : ns + N ≤ rm.slots) (hd : decode cc pc = .ok (.newarray atype, 2))
    (k : ∀ q, UC D A X (ws ++ [(q, .inl (cA, a0))]) (nc + 1) (ns + N) (pc + 2) lv (.ref q :: st)) : UC D A X ws nc ns pc lv (.int n :: st) := by
  obtain ⟨p, l, e, R, s, m, args, below, meth, c, nc0, ns0, Q⟩ := X
  obtain ⟨hx, hb, hml, hown, hts, hK, hR, hl0, hA⟩ := C
  intro H locs ls h2 h3 h4 h5
  subst hR
  refine va_newa hx hb (by rw [hty]; exact hts _ hw) hty hK h2 h3 h4 hA ha hn hN hbytes hc hs hd (fun q cB H1 hK1 hP hD hS => ?_)
  have e1 := (hK.2 t0 _ ht).2
  have e2 := (hK1.2 tys.length (cB, ty) (by simp)).2
  have hcc : cB = cA := by
    unfold va_RA at e1 e2
    cases ty with
    | object C => exact absurd rfl (hprim C)
    | _ => exact Option.some.inj (e2.symm.trans e1)
  rw [hcc] at hP hD
  exact k q H1 locs ls hP hD hS h5
theorem u_newq (C : CU D tys A l0 X cc nL own rm) {Cn : String} {index : Nat} (hw : Cond.classLink own index Cn ∈ lw_g) (hao : match X with | (_, _, _, _, s, _, _, _, _, _, _, _, _) => va_AO Cn s) (t0 : Nat) {cA : ClassId} (ht : tys[t0]? = some (cA, .object Cn)) {n : Int32} {N : Nat} (hn : ¬ n < 0) (hN : n.toNatClampNeg = N) (hbytes : N * 4 ≤ 536870912) (hc : nc + 1 ≤ rm.cells) (hs : ns + N ≤ rm.slots) (hd : decode cc pc = .ok (.anewarray index, 3))
    (k : ∀ q, UC D A X (ws ++ [(q, .inl (cA, N, .inr (.inr (.inr (.inr (fun _ => none))))))]) (nc + 1) (ns + N) (pc + 3) lv (.ref q :: st)) : UC D A X ws nc ns pc lv (.int n :: st) := by
  obtain ⟨p, l, e, R, s, m, args, below, meth, c, nc0, ns0, Q⟩ := X
  obtain ⟨hx, hb, hml, hown, hts, hK, hR, hl0, hA⟩ := C
  intro H locs ls h2 h3 h4 h5
  subst hR
  refine va_newq hx hb hown (hts _ hw) hao hK h2 h3 h4 hA hn hN hbytes hc hs hd (fun q cB H1 hK1 hP hD hS => ?_)
  obtain ⟨_, _, -, -, -, e1⟩ := (hK.2 t0 _ ht).2
  obtain ⟨_, _, -, -, -, e2⟩ := (hK1.2 tys.length (cB, .object Cn) (by simp)).2
  have hcc : cB = cA := Option.some.inj (e2.symm.trans e1)
  rw [hcc] at hP hD
  exact k q H1 locs ls hP hD hS h5
theorem u_astq (C : CU D tys A l0 X cc nL own rm) (q0 t0 qk ci : Nat) {cA : ClassId} {r : vw_C} {a n v : Nat} {vs : List Value} {f : Nat → Option Nat} (ha : ws[q0]? = some (a, .inl (cA, n, .inr (.inr (.inr (.inr f)))))) (ht : tys[t0]? = some (cA, .object r.1)) (hv : ws[qk]? = some (v, .inr (ci, vs))) (hc : vwCl[ci]? = some r) {i : Int32} (hin : vp_in i n) (hd : decode cc pc = .ok (.aastore, 1)) (k : UC D A X (ws.set q0 (a, .inl (cA, n, .inr (.inr (.inr (.inr (va_up f i.toNatClampNeg (some v)))))))) nc ns (pc + 1) lv st) : UC D A X ws nc ns pc lv (.ref v :: .int i :: .ref a :: st) := by
  obtain ⟨p, l, e, R, s, m, args, below, meth, c, nc0, ns0, Q⟩ := X
  obtain ⟨hx, hb, hml, hown, hts, hK, hR, hl0, hA⟩ := C
  intro H locs ls h2 h3 h4 h5
  exact va_astq hx hb hK h2 h3 h4 q0 t0 qk ci ha ht hv hc hin hd (fun H1 locs1 hP hD hS => k H1 locs1 ls hP hD hS h5)
theorem u_new (C : CU D tys A l0 X cc nL own rm) {ci : Nat} {Rc : String} {T : u_T} {N : Nat} {ty : Nat → FieldType} (kx : KX ci Rc T N ty) {index : Nat} (hw : Cond.classLink own index Rc ∈ lw_g) (w1 : Cond.instantiable Rc N ∈ lw_g) (w2 : Cond.initialized Rc ∈ lw_g) {fs : List Value} (hfs : ∀ j, j < N → defaultValue (ty j) = vp_V fs j) (hc : nc + 1 ≤ rm.cells) (hs : ns + N ≤ rm.slots) (hd : decode cc pc = .ok (.new index, 3)) (k : ∀ q, UC D A X (ws ++ [(q, .inr (ci, fs))]) (nc + 1) (ns + N) (pc + 3) lv (.ref q :: st)) : UC D A X ws nc ns pc lv st := by
  obtain ⟨p, l, e, R, s, m, args, below, meth, c, nc0, ns0, Q⟩ := X
  obtain ⟨hx, hb, hml, hown, hts, hK, hR, hl0, hA⟩ := C
  obtain ⟨kc, ki, kt, km, kn, k10⟩ := kx
  intro H locs ls h2 h3 h4 h5
  subst hR
  exact va_new hx hb hts ki ty kt hown (hts _ hw) (hts _ w1) (hts _ w2) hK h2 h3 h4 hA kc hfs hc hs hd (fun q H1 hP hD hS => k q H1 locs ls hP hD hS h5)
theorem u_putF (C : CU D tys A l0 X cc nL own rm) (hin : IN X) {ci : Nat} {Rc : String} {T : u_T} {N : Nat} {ty : Nat → FieldType} (kx : KX ci Rc T N ty) (q0 j : Nat) {index a : Nat} {fs : List Value} {v : Value} (he : ws[q0]? = some (a, .inr (ci, fs))) (hj : j < N) (hw : Cond.fieldLink own index Rc (T j).2.1 (T j).2.2.1 ∈ lw_g) (hT : (T j).1 = Rc) (hfin : (T j).2.2.2 = true) (ho : Rc = own) (hn : narrow (ty j) v = v) (hfit : fits (ty j) v = true) (hl : j < fs.length) (hd : decode cc pc = .ok (.putfield index, 3)) (k : UC D A X (ws.set q0 (a, .inr (ci, fs.set j v))) nc ns (pc + 3) lv st) : UC D A X ws nc ns pc lv (v :: .ref a :: st) := by
  obtain ⟨p, l, e, R, s, m, args, below, meth, c, nc0, ns0, Q⟩ := X
  obtain ⟨hx, hb, hml, hown, hts, hK, hR, hl0, hA⟩ := C
  obtain ⟨kc, ki, kt, km, kn, k10⟩ := kx
  intro H locs ls h2 h3 h4 h5
  exact va_putF hx hb hts ki ty kt km hown hK h2 h3 h4 q0 he kc j hj (hts _ hw) (fun x h => by rw [← hT]; exact h) hfin hin (hT.trans ho) (kt j hj) hn hfit hl hd (fun H1 locs1 hP hD hS => k H1 locs1 ls hP hD hS h5)
theorem u_put (C : CU D tys A l0 X cc nL own rm) {ci : Nat} {Rc : String} {T : u_T} {N : Nat} {ty : Nat → FieldType} (kx : KX ci Rc T N ty) (q0 j : Nat) {index a : Nat} {fs : List Value} {v : Value} (he : ws[q0]? = some (a, .inr (ci, fs))) (hj : j < N) (hw : Cond.fieldLink own index Rc (T j).2.1 (T j).2.2.1 ∈ lw_g) (hT : (T j).1 = Rc) (hfin : (T j).2.2.2 = false) (hn : narrow (ty j) v = v) (hfit : fits (ty j) v = true) (hl : j < fs.length) (hd : decode cc pc = .ok (.putfield index, 3)) (k : UC D A X (ws.set q0 (a, .inr (ci, fs.set j v))) nc ns (pc + 3) lv st) : UC D A X ws nc ns pc lv (v :: .ref a :: st) := by
  obtain ⟨p, l, e, R, s, m, args, below, meth, c, nc0, ns0, Q⟩ := X
  obtain ⟨hx, hb, hml, hown, hts, hK, hR, hl0, hA⟩ := C
  obtain ⟨kc, ki, kt, km, kn, k10⟩ := kx
  intro H locs ls h2 h3 h4 h5
  exact va_put hx hb hts ki ty kt km hown hK h2 h3 h4 q0 he kc j hj (hts _ hw) (fun x h => by rw [← hT]; exact h) hfin (kt j hj) hn hfit hl hd (fun H1 locs1 hP hD hS => k H1 locs1 ls hP hD hS h5)
theorem u_eq {ws' : va_W} (h : ws = ws') (k : UC D A X ws' nc ns pc lv st) : UC D A X ws nc ns pc lv st := by rw [h]; exact k
end CTOR
def EU (A : Nat → Prop) (X : CX) (mc ms : Nat) (Qc : Array Value → State → Outcome → State → Prop) : Prop := match X with
  | (_, _, _, _, s, _, args, below, meth, _, _, _, Q) => meth.sig.returnType = none ∧ meth.locks = false ∧ Q = MQ below Qc args s mc ms A
theorem u_vret {D : va_G} {tys : List (ClassId × FieldType)} {A : Nat → Prop} {l0 : Launch} {X : CX} {cc : ByteArray} {nL : Nat} {own : String} {rm : Room} {ws : va_W} {nc ns pc : Nat} {lv : List (Nat × Value)} (C : CU D tys A l0 X cc nL own rm) {S : Type} {B : S → State → Prop} (E : EU A X nc ns (va_Qv (S := S) (fun _ => True) B A)) (hd : decode cc pc = .ok (.return_, 1)) (u : S) (hB : ∀ U, PW D tys A ws U → B u U) : UC D A X ws nc ns pc lv [] := by
  obtain ⟨p, l, e, R, s, m, args, below, meth, c, nc0, ns0, Q⟩ := X
  obtain ⟨hx, hb, hml, hown, hts, hK, hR, hl0, hA⟩ := C
  obtain ⟨hr, hlk, rfl⟩ := E
  intro H locs ls h2 h3 h4 h5
  exact W.vret hx hb hr (fun t ht hW => ⟨⟨u, rfl, trivial, hB t ⟨by rw [ht]; exact h2, va_K.moved hW.alike hK, h3, fun q hq => hA q (by rw [ht] at hq; exact Nat.le_trans h4.1 hq)⟩⟩, h4.F ht⟩) h4.2.2 hd hlk
/-- a constructor's contract over a world that is a list -/
def MU (D : va_G) (tys : List (ClassId × FieldType)) (A : Nat → Prop) (l : Launch) (y : MethodName) (bytes : ByteArray) (f mc ms n : Nat) (h0 : Nat) (ws : va_W) (Ex : State → Prop) {S : Type} (B : S → State → Prop) : Prop := Met l y (wM y bytes 1 none) { frames := f, cells := mc, slots := ms, locals := n } (va_Pc [.ref h0] (fun U => PW D tys A ws U ∧ Ex U)) (va_Qv (S := S) (fun _ => True) B A) mc ms A
theorem mu_of (D : va_G) (tys : List (ClassId × FieldType)) (A : Nat → Prop) (l : Launch) {y : MethodName} {bytes : ByteArray} {f mc ms n h0 : Nat} {ws : va_W} {Ex : State → Prop} {S : Type} {B : S → State → Prop} (hy : plainName y.cls = true) (hn : y.name = "<init>")
    (body : ∀ X : CX, CU D tys A l X bytes 1 y.cls { frames := f, cells := mc, slots := ms, locals := n } → IN X → (match X with | (_, _, _, _, s, _, _, _, _, _, _, _, _) => Ex s) → EU A X mc ms (va_Qv (S := S) (fun _ => True) B A) → UC D A X ws 0 0 0 [(0, .ref h0)] []) : MU D tys A l y bytes f mc ms n h0 ws Ex B := by
  refine Met.ofW (cc := bytes) (maxL := 1) (ret := none) hy rfl ?_
  intro p e s m args below meth c s₁ Bd hml hv
  obtain ⟨rfl, ⟨w1, w2, w3, w4⟩, hex⟩ := hv
  have hts := atoms_spec (ws := wM y bytes 1 none) Bd.pre
  have hown : s.vm.findClass y.cls = some m.cls := findClass_of_methodNamed Bd.named
  have hin : meth.name = "<init>" := (name_of_methodNamed Bd.named Bd.method).1.trans hn
  have hl := lv_entry [Value.ref h0] (n := 1) (Nat.le_of_ble_eq_true rfl)
  rw [lg_entry_eq]
  refine body (p, l, e, (headSpec (wM y bytes 1 none) { frames := f, cells := mc, slots := ms, locals := n }).room, s, m, [Value.ref h0].toArray, below, meth, c, 0, 0, MQ below (va_Qv (S := S) (fun _ => True) B A) [Value.ref h0].toArray s mc ms A) ⟨Bd.exec, Bd.bytes, hml, hown, fun w hw => hts w (List.mem_cons_of_mem _ hw), w2, rfl, rfl, w4⟩ hin hex ⟨Bd.returns, Bd.notSynchronized, rfl⟩ s.heap [] _ w1 w3 va_S.rf ?_
  rw [hml]
  exact hl
/-- a constructor that is called: a nest mate's -/
theorem u_callN {D : va_G} {tys : List (ClassId × FieldType)} {A : Nat → Prop} {l0 : Launch} {X : CX} {cc : ByteArray} {nL : Nat} {own : String} {rm : Room} {ws : va_W} {nc ns pc : Nat} {lv : List (Nat × Value)} {st : List Value} (C : CU D tys A l0 X cc nL own rm) {y : MethodName} {bytes : ByteArray} {f mc ms n b index : Nat} {S : Type} {B : S → State → Prop} {host : String} (hM : MU D tys A l0 y bytes f mc ms n b ws (fun _ => True) B) (hnest : match X with | (_, _, _, _, s, _, _, _, _, _, _, _, _) => va_Nw (.methodLinkNest own index y host) s) (w1 : Cond.instanceMethod y ∈ lw_g) (w2 : Cond.initialized y.cls ∈ lw_g) (w3 : Cond.code y bytes 1 none ∈ lw_g) (hy : y.name = "<init>") (hdd : y.cls ≠ "java/lang/invoke/MethodHandle" ∧ y.cls ≠ "java/lang/invoke/VarHandle" ∧ (parseMethodDescriptor y.desc).map (fun d => d.parameters.length) = some 0) (hr : f + 1 ≤ rm.frames ∧ 8 + (1 + 11) + n ≤ rm.locals) (hW : (st.map fun v => v.category).sum ≤ 8) (hd : decode cc pc = .ok (.invokespecial index, 3)) (hf : nc + mc ≤ rm.cells ∧ ns + ms ≤ rm.slots)
    (k : ∀ (u : S) (t : State), B u t → ∃ ws', PW D tys A ws' t ∧ UC D A X ws' (nc + mc) (ns + ms) (pc + 3) lv st) : UC D A X ws nc ns pc lv (.ref b :: st) := by
  obtain ⟨p, l, e, R, s, m, args, below, meth, c, nc0, ns0, Q⟩ := X
  obtain ⟨hx, hb, hml, hown, hts, hK, hR, hl0, hA⟩ := C
  intro H locs ls h2 h3 h4 h5
  subst hR hl0
  refine va_callv (va_runIN (As := []) (rest := st) ⟨hx, hb, rfl, hown, hts⟩ hM ⟨va_cnB 0 hts (tbl_goodIn (ws := []) w3 (fun x h => by cases h)) rfl rfl rfl hnest (hts _ w2) hdd hr, hy, hts _ w1⟩ ⟨fun a U g mk q => by
      obtain ⟨q0, ⟨q1, q2, q3, q4⟩, -⟩ := q
      exact ⟨q0, ⟨q1, va_K.moved (u := U) (U := U.calling g mk a) (Vm.Alike.refl U.vm) q2, q3, q4⟩, trivial⟩, fun U hU hW => ⟨rfl, ⟨by rw [hU]; exact h2, va_K.moved hW.alike hK, h3, fun q hq => hA q (by rw [hU] at hq; exact Nat.le_trans h4.1 hq)⟩, trivial⟩⟩ rfl rfl h5.1 rfl (lv_room hW) hd hf) h4 (fun _ _ h => h) (fun _ h => h) (fun u t H1 locs1 ht hvm hp hB hz hk hS => ?_)
  obtain ⟨ws', g1, g2⟩ := k u t hB
  obtain ⟨r1, r2, r3, r4⟩ := g1
  rw [ht] at r1
  exact g2 H1 locs1 ls r1 r3 hS h5
theorem cw_get {ws l : va_W} {p : Nat} {e : Nat × va_E} (hp : p < ws.length) : (ws.set p e ++ l)[p]? = some e := by
  rw [List.getElem?_append_left (by rw [List.length_set]; exact hp), List.getElem?_set_self hp]
theorem cw_set {ws l : va_W} {p : Nat} {e e' : Nat × va_E} (hp : p < ws.length) : (ws.set p e ++ l).set p e' = ws.set p e' ++ l := by
  rw [List.set_append_left _ _ (by rw [List.length_set]; exact hp), List.set_set]
theorem cw_new {ws l : va_W} {p : Nat} {e x : Nat × va_E} : (ws.set p e ++ l) ++ [x] = ws.set p e ++ (l ++ [x]) := List.append_assoc _ _ _
theorem cw_0 {ws : va_W} {p : Nat} {e : Nat × va_E} (h : ws[p]? = some e) : ws = ws.set p e ++ [] := by
  rw [List.append_nil]
  apply List.ext_getElem?
  intro i
  rw [List.getElem?_set]
  have hp : p < ws.length := (List.getElem?_eq_some_iff.mp h).1
  by_cases hi : p = i
  · subst hi
    rw [if_pos rfl, if_pos hp, h]
  · rw [if_neg hi]
set_option maxRecDepth 100000 in
theorem wd_80 : (.methodLink RX8 3 objectInit : Cond) ∈ lw_g := mg (List.mem_of_getElem? (i := 80) rfl) rfl
set_option maxRecDepth 100000 in
theorem wd_81 : (.instanceMethod objectInit : Cond) ∈ lw_g := mg (List.mem_of_getElem? (i := 81) rfl) rfl
set_option maxRecDepth 100000 in
theorem wd_82 : (.code objectInit ⟨#[0xb1]⟩ 1 none : Cond) ∈ lw_g := mg (List.mem_of_getElem? (i := 82) rfl) rfl
set_option maxRecDepth 100000 in
theorem wd_83 : (.classLink RX8 9 RX4 : Cond) ∈ lw_g := mg (List.mem_of_getElem? (i := 83) rfl) rfl
set_option maxRecDepth 100000 in
theorem wd_84 : (.instantiable RX4 6 : Cond) ∈ lw_g := mg (List.mem_of_getElem? (i := 84) rfl) rfl
set_option maxRecDepth 100000 in
theorem wd_86 : (.instanceMethod yX4_init : Cond) ∈ lw_g := mg (List.mem_of_getElem? (i := 86) rfl) rfl
set_option maxRecDepth 100000 in
theorem wd_87 : (.code yX4_init cX4_init 1 none : Cond) ∈ lw_g := mg (List.mem_of_getElem? (i := 87) rfl) rfl
set_option maxRecDepth 100000 in
theorem wd_88 : (.methodLink RX4 3 objectInit : Cond) ∈ lw_g := mg (List.mem_of_getElem? (i := 88) rfl) rfl
set_option maxRecDepth 100000 in
theorem wd_110 : (.arrayClass .int : Cond) ∈ lw_g := mg (List.mem_of_getElem? (i := 110) rfl) rfl
set_option maxRecDepth 100000 in
theorem wd_111 : (.classLink RX8 16 RX3 : Cond) ∈ lw_g := mg (List.mem_of_getElem? (i := 111) rfl) rfl
set_option maxRecDepth 100000 in
theorem wd_112 : (.instantiable RX3 16 : Cond) ∈ lw_g := mg (List.mem_of_getElem? (i := 112) rfl) rfl
set_option maxRecDepth 100000 in
theorem wd_114 : (.instanceMethod yX3_init : Cond) ∈ lw_g := mg (List.mem_of_getElem? (i := 114) rfl) rfl
set_option maxRecDepth 100000 in
theorem wd_115 : (.code yX3_init cX3_init 1 none : Cond) ∈ lw_g := mg (List.mem_of_getElem? (i := 115) rfl) rfl
set_option maxRecDepth 100000 in
theorem wd_116 : (.methodLink RX3 3 objectInit : Cond) ∈ lw_g := mg (List.mem_of_getElem? (i := 116) rfl) rfl
set_option maxRecDepth 100000 in
theorem wd_171 : (.fieldLink RX3 33 RX3 "bears" "[I" : Cond) ∈ lw_g := mg (List.mem_of_getElem? (i := 171) rfl) rfl
set_option maxRecDepth 100000 in
theorem wd_207 : (.classLink RX8 26 RX2 : Cond) ∈ lw_g := mg (List.mem_of_getElem? (i := 207) rfl) rfl
set_option maxRecDepth 100000 in
theorem wd_208 : (.instantiable RX2 5 : Cond) ∈ lw_g := mg (List.mem_of_getElem? (i := 208) rfl) rfl
set_option maxRecDepth 100000 in
theorem wd_210 : (.instanceMethod yX2_init : Cond) ∈ lw_g := mg (List.mem_of_getElem? (i := 210) rfl) rfl
set_option maxRecDepth 100000 in
theorem wd_211 : (.code yX2_init cX2_init 1 none : Cond) ∈ lw_g := mg (List.mem_of_getElem? (i := 211) rfl) rfl
set_option maxRecDepth 100000 in
theorem wd_212 : (.methodLink RX2 3 objectInit : Cond) ∈ lw_g := mg (List.mem_of_getElem? (i := 212) rfl) rfl
set_option maxRecDepth 100000 in
theorem wd_233 : (.classLink RX8 40 RX6 : Cond) ∈ lw_g := mg (List.mem_of_getElem? (i := 233) rfl) rfl
set_option maxRecDepth 100000 in
theorem wd_234 : (.instantiable RX6 3 : Cond) ∈ lw_g := mg (List.mem_of_getElem? (i := 234) rfl) rfl
set_option maxRecDepth 100000 in
theorem wd_236 : (.instanceMethod yX6_init : Cond) ∈ lw_g := mg (List.mem_of_getElem? (i := 236) rfl) rfl
set_option maxRecDepth 100000 in
theorem wd_237 : (.code yX6_init cX6_init 1 none : Cond) ∈ lw_g := mg (List.mem_of_getElem? (i := 237) rfl) rfl
set_option maxRecDepth 100000 in
theorem wd_238 : (.methodLink RX6 3 objectInit : Cond) ∈ lw_g := mg (List.mem_of_getElem? (i := 238) rfl) rfl
set_option maxRecDepth 100000 in
theorem wd_250 : (.classLink RX8 47 RX1 : Cond) ∈ lw_g := mg (List.mem_of_getElem? (i := 250) rfl) rfl
set_option maxRecDepth 100000 in
theorem wd_251 : (.instantiable RX1 3 : Cond) ∈ lw_g := mg (List.mem_of_getElem? (i := 251) rfl) rfl
set_option maxRecDepth 100000 in
theorem wd_253 : (.instanceMethod yX1_init : Cond) ∈ lw_g := mg (List.mem_of_getElem? (i := 253) rfl) rfl
set_option maxRecDepth 100000 in
theorem wd_254 : (.code yX1_init cX1_init 1 none : Cond) ∈ lw_g := mg (List.mem_of_getElem? (i := 254) rfl) rfl
set_option maxRecDepth 100000 in
theorem wd_255 : (.methodLink RX1 3 objectInit : Cond) ∈ lw_g := mg (List.mem_of_getElem? (i := 255) rfl) rfl
set_option maxRecDepth 100000 in
theorem wd_267 : (.classLink RX8 54 RX7 : Cond) ∈ lw_g := mg (List.mem_of_getElem? (i := 267) rfl) rfl
set_option maxRecDepth 100000 in
theorem wd_268 : (.instantiable RX7 3 : Cond) ∈ lw_g := mg (List.mem_of_getElem? (i := 268) rfl) rfl
set_option maxRecDepth 100000 in
theorem wd_270 : (.instanceMethod yX7_init : Cond) ∈ lw_g := mg (List.mem_of_getElem? (i := 270) rfl) rfl
set_option maxRecDepth 100000 in
theorem wd_271 : (.code yX7_init cX7_init 1 none : Cond) ∈ lw_g := mg (List.mem_of_getElem? (i := 271) rfl) rfl
set_option maxRecDepth 100000 in
theorem wd_272 : (.methodLink RX7 3 objectInit : Cond) ∈ lw_g := mg (List.mem_of_getElem? (i := 272) rfl) rfl
set_option maxRecDepth 100000 in
theorem wd_283 : (.classLink RX8 61 RX0 : Cond) ∈ lw_g := mg (List.mem_of_getElem? (i := 283) rfl) rfl
set_option maxRecDepth 100000 in
theorem wd_284 : (.instantiable RX0 4 : Cond) ∈ lw_g := mg (List.mem_of_getElem? (i := 284) rfl) rfl
set_option maxRecDepth 100000 in
theorem wd_286 : (.instanceMethod yX0_init : Cond) ∈ lw_g := mg (List.mem_of_getElem? (i := 286) rfl) rfl
set_option maxRecDepth 100000 in
theorem wd_287 : (.code yX0_init cX0_init 1 none : Cond) ∈ lw_g := mg (List.mem_of_getElem? (i := 287) rfl) rfl
set_option maxRecDepth 100000 in
theorem wd_288 : (.methodLink RX0 3 objectInit : Cond) ∈ lw_g := mg (List.mem_of_getElem? (i := 288) rfl) rfl
set_option maxRecDepth 100000 in
theorem wd_302 : (.classLink RX8 68 RX5 : Cond) ∈ lw_g := mg (List.mem_of_getElem? (i := 302) rfl) rfl
set_option maxRecDepth 100000 in
theorem wd_303 : (.instantiable RX5 2 : Cond) ∈ lw_g := mg (List.mem_of_getElem? (i := 303) rfl) rfl
set_option maxRecDepth 100000 in
theorem wd_305 : (.instanceMethod yX5_init : Cond) ∈ lw_g := mg (List.mem_of_getElem? (i := 305) rfl) rfl
set_option maxRecDepth 100000 in
theorem wd_306 : (.code yX5_init cX5_init 1 none : Cond) ∈ lw_g := mg (List.mem_of_getElem? (i := 306) rfl) rfl
set_option maxRecDepth 100000 in
theorem wd_307 : (.methodLink RX5 3 objectInit : Cond) ∈ lw_g := mg (List.mem_of_getElem? (i := 307) rfl) rfl
set_option maxRecDepth 100000 in
theorem wd_811 : (.methodLink RX9 1 objectInit : Cond) ∈ lw_g := mg (List.mem_of_getElem? (i := 811) rfl) rfl
set_option maxRecDepth 100000 in
theorem wd_931 : (.arrayClass .boolean : Cond) ∈ lw_g := mg (List.mem_of_getElem? (i := 931) rfl) rfl
set_option maxRecDepth 100000 in
theorem wd_932 : (.arrayClass .long : Cond) ∈ lw_g := mg (List.mem_of_getElem? (i := 932) rfl) rfl
set_option maxRecDepth 100000 in
theorem k_X4_init (D : va_G) (cA : Nat → ClassId) (A : Nat → Prop) (l : Launch) {ws : va_W} {p h0 : Nat} (hp : ws[p]? = some (h0, .inr (4, [.null, .int (zI 0), .int (zI 0), .int (zI 0), .int (zI 0), .int (zI 0)]))) : MU D [(cA 0, .int), (cA 1, .long), (cA 2, .boolean), (cA 3, .object "KnownWeight$Heads")] A l yX4_init cX4_init 1 1 250 12 h0 ws (fun _ => True) (S := Nat) (fun u => PW D [(cA 0, .int), (cA 1, .long), (cA 2, .boolean), (cA 3, .object "KnownWeight$Heads")] A (ws.set p (h0, .inr (4, [.ref (u), .int (zI 0), .int (zI (-1)), .int (zI 0), .int (zI 0), .int (zI 0)])) ++ [((u), .inl (cA 0, 250, .inl (fun _ => zI 0)))])) := by
  have hpl : p < ws.length := (List.getElem?_eq_some_iff.mp hp).1
  refine mu_of D _ A l (by decide) rfl (fun X C hin hex E => ?_)
  refine u_eq (cw_0 hp) ?_
  refine u_aload_n C 0 dX4_init_0 rfl ?_
  refine u_obj C wd_88 wd_81 wd_82 dX4_init_1 (by decide) (by decide) ?_
  refine u_aload_n C 0 dX4_init_4 rfl ?_
  refine u_sipush (v := zI 250) C dX4_init_5 (by decide) ?_
  refine u_newa (ty := .int) (N := 250) (a0 := (250, .inl (fun _ => zI 0))) C rfl wd_110 0 rfl (fun _ h => by cases h) (fun _ => rfl) (by decide) (by decide) (by decide) (by decide) (by decide) dX4_init_8 (fun q1 => ?_)
  rw [cw_new]
  refine u_putF C hin kX4 p 0 (cw_get hpl) (by decide) wd_89 rfl rfl rfl rfl rfl (Nat.le_of_ble_eq_true rfl) dX4_init_10 ?_
  rw [cw_set hpl]
  show UC _ _ X (ws.set p (h0, .inr (4, [.ref q1, .int (zI 0), .int (zI 0), .int (zI 0), .int (zI 0), .int (zI 0)])) ++ [(q1, .inl (cA 0, 250, .inl (fun _ => zI 0)))]) _ _ _ _ _
  refine u_aload_n C 0 dX4_init_13 rfl ?_
  refine u_iconst (v := zI (-1)) C dX4_init_14 (by decide) ?_
  refine u_put C kX4 p 2 (cw_get hpl) (by decide) wd_92 rfl rfl rfl rfl (Nat.le_of_ble_eq_true rfl) dX4_init_15 ?_
  rw [cw_set hpl]
  show UC _ _ X (ws.set p (h0, .inr (4, [.ref q1, .int (zI 0), .int (zI (-1)), .int (zI 0), .int (zI 0), .int (zI 0)])) ++ [(q1, .inl (cA 0, 250, .inl (fun _ => zI 0)))]) _ _ _ _ _
  exact u_vret C E dX4_init_18 (q1) (fun U h => h)
set_option maxRecDepth 100000 in
theorem k_X3_init (D : va_G) (cA : Nat → ClassId) (A : Nat → Prop) (l : Launch) {ws : va_W} {p h0 : Nat} (hp : ws[p]? = some (h0, .inr (3, [.int (zI 0), .int (zI 0), .int (zI 0), .int (zI 0), .int (zI 0), .int (zI 0), .int (zI 0), .int (zI 0), .null, .null, .null, .null, .null, .null, .null, .null]))) : MU D [(cA 0, .int), (cA 1, .long), (cA 2, .boolean), (cA 3, .object "KnownWeight$Heads")] A l yX3_init cX3_init 1 8 66 12 h0 ws (fun _ => True) (S := Nat × Nat × Nat × Nat × Nat × Nat × Nat × Nat) (fun u => PW D [(cA 0, .int), (cA 1, .long), (cA 2, .boolean), (cA 3, .object "KnownWeight$Heads")] A (ws.set p (h0, .inr (3, [.int (zI 0), .int (zI 0), .int (zI 0), .int (zI 0), .int (zI 0), .int (zI 0), .int (zI 0), .int (zI 0), .ref (u.1), .ref (u.2.1), .ref (u.2.2.1), .ref (u.2.2.2.1), .ref (u.2.2.2.2.1), .ref (u.2.2.2.2.2.1), .ref (u.2.2.2.2.2.2.1), .ref (u.2.2.2.2.2.2.2)])) ++ [((u.1), .inl (cA 0, 8, .inl (fun _ => zI 0))), ((u.2.1), .inl (cA 0, 8, .inl (fun _ => zI 0))), ((u.2.2.1), .inl (cA 0, 8, .inl (fun _ => zI 0))), ((u.2.2.2.1), .inl (cA 0, 7, .inl (fun _ => zI 0))), ((u.2.2.2.2.1), .inl (cA 0, 7, .inl (fun _ => zI 0))), ((u.2.2.2.2.2.1), .inl (cA 0, 12, .inl (fun _ => zI 0))), ((u.2.2.2.2.2.2.1), .inl (cA 0, 12, .inl (fun _ => zI 0))), ((u.2.2.2.2.2.2.2), .inl (cA 0, 4, .inl (fun _ => zI 0)))])) := by
  have hpl : p < ws.length := (List.getElem?_eq_some_iff.mp hp).1
  refine mu_of D _ A l (by decide) rfl (fun X C hin hex E => ?_)
  refine u_eq (cw_0 hp) ?_
  refine u_aload_n C 0 dX3_init_0 rfl ?_
  refine u_obj C wd_116 wd_81 wd_82 dX3_init_1 (by decide) (by decide) ?_
  refine u_aload_n C 0 dX3_init_4 rfl ?_
  refine u_bipush (v := zI 8) C dX3_init_5 (by decide) ?_
  refine u_newa (ty := .int) (N := 8) (a0 := (8, .inl (fun _ => zI 0))) C rfl wd_110 0 rfl (fun _ h => by cases h) (fun _ => rfl) (by decide) (by decide) (by decide) (by decide) (by decide) dX3_init_7 (fun q1 => ?_)
  rw [cw_new]
  refine u_putF C hin kX3 p 8 (cw_get hpl) (by decide) wd_149 rfl rfl rfl rfl rfl (Nat.le_of_ble_eq_true rfl) dX3_init_9 ?_
  rw [cw_set hpl]
  show UC _ _ X (ws.set p (h0, .inr (3, [.int (zI 0), .int (zI 0), .int (zI 0), .int (zI 0), .int (zI 0), .int (zI 0), .int (zI 0), .int (zI 0), .ref q1, .null, .null, .null, .null, .null, .null, .null])) ++ [(q1, .inl (cA 0, 8, .inl (fun _ => zI 0)))]) _ _ _ _ _
  refine u_aload_n C 0 dX3_init_12 rfl ?_
  refine u_bipush (v := zI 8) C dX3_init_13 (by decide) ?_
  refine u_newa (ty := .int) (N := 8) (a0 := (8, .inl (fun _ => zI 0))) C rfl wd_110 0 rfl (fun _ h => by cases h) (fun _ => rfl) (by decide) (by decide) (by decide) (by decide) (by decide) dX3_init_15 (fun q2 => ?_)
  rw [cw_new]
  refine u_putF C hin kX3 p 9 (cw_get hpl) (by decide) wd_153 rfl rfl rfl rfl rfl (Nat.le_of_ble_eq_true rfl) dX3_init_17 ?_
  rw [cw_set hpl]
  show UC _ _ X (ws.set p (h0, .inr (3, [.int (zI 0), .int (zI 0), .int (zI 0), .int (zI 0), .int (zI 0), .int (zI 0), .int (zI 0), .int (zI 0), .ref q1, .ref q2, .null, .null, .null, .null, .null, .null])) ++ [(q1, .inl (cA 0, 8, .inl (fun _ => zI 0))), (q2, .inl (cA 0, 8, .inl (fun _ => zI 0)))]) _ _ _ _ _
  refine u_aload_n C 0 dX3_init_20 rfl ?_
  refine u_bipush (v := zI 8) C dX3_init_21 (by decide) ?_
  refine u_newa (ty := .int) (N := 8) (a0 := (8, .inl (fun _ => zI 0))) C rfl wd_110 0 rfl (fun _ h => by cases h) (fun _ => rfl) (by decide) (by decide) (by decide) (by decide) (by decide) dX3_init_23 (fun q3 => ?_)
  rw [cw_new]
  refine u_putF C hin kX3 p 10 (cw_get hpl) (by decide) wd_158 rfl rfl rfl rfl rfl (Nat.le_of_ble_eq_true rfl) dX3_init_25 ?_
  rw [cw_set hpl]
  show UC _ _ X (ws.set p (h0, .inr (3, [.int (zI 0), .int (zI 0), .int (zI 0), .int (zI 0), .int (zI 0), .int (zI 0), .int (zI 0), .int (zI 0), .ref q1, .ref q2, .ref q3, .null, .null, .null, .null, .null])) ++ [(q1, .inl (cA 0, 8, .inl (fun _ => zI 0))), (q2, .inl (cA 0, 8, .inl (fun _ => zI 0))), (q3, .inl (cA 0, 8, .inl (fun _ => zI 0)))]) _ _ _ _ _
  refine u_aload_n C 0 dX3_init_28 rfl ?_
  refine u_bipush (v := zI 7) C dX3_init_29 (by decide) ?_
  refine u_newa (ty := .int) (N := 7) (a0 := (7, .inl (fun _ => zI 0))) C rfl wd_110 0 rfl (fun _ h => by cases h) (fun _ => rfl) (by decide) (by decide) (by decide) (by decide) (by decide) dX3_init_31 (fun q4 => ?_)
  rw [cw_new]
  refine u_putF C hin kX3 p 11 (cw_get hpl) (by decide) wd_161 rfl rfl rfl rfl rfl (Nat.le_of_ble_eq_true rfl) dX3_init_33 ?_
  rw [cw_set hpl]
  show UC _ _ X (ws.set p (h0, .inr (3, [.int (zI 0), .int (zI 0), .int (zI 0), .int (zI 0), .int (zI 0), .int (zI 0), .int (zI 0), .int (zI 0), .ref q1, .ref q2, .ref q3, .ref q4, .null, .null, .null, .null])) ++ [(q1, .inl (cA 0, 8, .inl (fun _ => zI 0))), (q2, .inl (cA 0, 8, .inl (fun _ => zI 0))), (q3, .inl (cA 0, 8, .inl (fun _ => zI 0))), (q4, .inl (cA 0, 7, .inl (fun _ => zI 0)))]) _ _ _ _ _
  refine u_aload_n C 0 dX3_init_36 rfl ?_
  refine u_bipush (v := zI 7) C dX3_init_37 (by decide) ?_
  refine u_newa (ty := .int) (N := 7) (a0 := (7, .inl (fun _ => zI 0))) C rfl wd_110 0 rfl (fun _ h => by cases h) (fun _ => rfl) (by decide) (by decide) (by decide) (by decide) (by decide) dX3_init_39 (fun q5 => ?_)
  rw [cw_new]
  refine u_putF C hin kX3 p 12 (cw_get hpl) (by decide) wd_165 rfl rfl rfl rfl rfl (Nat.le_of_ble_eq_true rfl) dX3_init_41 ?_
  rw [cw_set hpl]
  show UC _ _ X (ws.set p (h0, .inr (3, [.int (zI 0), .int (zI 0), .int (zI 0), .int (zI 0), .int (zI 0), .int (zI 0), .int (zI 0), .int (zI 0), .ref q1, .ref q2, .ref q3, .ref q4, .ref q5, .null, .null, .null])) ++ [(q1, .inl (cA 0, 8, .inl (fun _ => zI 0))), (q2, .inl (cA 0, 8, .inl (fun _ => zI 0))), (q3, .inl (cA 0, 8, .inl (fun _ => zI 0))), (q4, .inl (cA 0, 7, .inl (fun _ => zI 0))), (q5, .inl (cA 0, 7, .inl (fun _ => zI 0)))]) _ _ _ _ _
  refine u_aload_n C 0 dX3_init_44 rfl ?_
  refine u_bipush (v := zI 12) C dX3_init_45 (by decide) ?_
  refine u_newa (ty := .int) (N := 12) (a0 := (12, .inl (fun _ => zI 0))) C rfl wd_110 0 rfl (fun _ h => by cases h) (fun _ => rfl) (by decide) (by decide) (by decide) (by decide) (by decide) dX3_init_47 (fun q6 => ?_)
  rw [cw_new]
  refine u_putF C hin kX3 p 13 (cw_get hpl) (by decide) wd_169 rfl rfl rfl rfl rfl (Nat.le_of_ble_eq_true rfl) dX3_init_49 ?_
  rw [cw_set hpl]
  show UC _ _ X (ws.set p (h0, .inr (3, [.int (zI 0), .int (zI 0), .int (zI 0), .int (zI 0), .int (zI 0), .int (zI 0), .int (zI 0), .int (zI 0), .ref q1, .ref q2, .ref q3, .ref q4, .ref q5, .ref q6, .null, .null])) ++ [(q1, .inl (cA 0, 8, .inl (fun _ => zI 0))), (q2, .inl (cA 0, 8, .inl (fun _ => zI 0))), (q3, .inl (cA 0, 8, .inl (fun _ => zI 0))), (q4, .inl (cA 0, 7, .inl (fun _ => zI 0))), (q5, .inl (cA 0, 7, .inl (fun _ => zI 0))), (q6, .inl (cA 0, 12, .inl (fun _ => zI 0)))]) _ _ _ _ _
  refine u_aload_n C 0 dX3_init_52 rfl ?_
  refine u_bipush (v := zI 12) C dX3_init_53 (by decide) ?_
  refine u_newa (ty := .int) (N := 12) (a0 := (12, .inl (fun _ => zI 0))) C rfl wd_110 0 rfl (fun _ h => by cases h) (fun _ => rfl) (by decide) (by decide) (by decide) (by decide) (by decide) dX3_init_55 (fun q7 => ?_)
  rw [cw_new]
  refine u_putF C hin kX3 p 14 (cw_get hpl) (by decide) wd_170 rfl rfl rfl rfl rfl (Nat.le_of_ble_eq_true rfl) dX3_init_57 ?_
  rw [cw_set hpl]
  show UC _ _ X (ws.set p (h0, .inr (3, [.int (zI 0), .int (zI 0), .int (zI 0), .int (zI 0), .int (zI 0), .int (zI 0), .int (zI 0), .int (zI 0), .ref q1, .ref q2, .ref q3, .ref q4, .ref q5, .ref q6, .ref q7, .null])) ++ [(q1, .inl (cA 0, 8, .inl (fun _ => zI 0))), (q2, .inl (cA 0, 8, .inl (fun _ => zI 0))), (q3, .inl (cA 0, 8, .inl (fun _ => zI 0))), (q4, .inl (cA 0, 7, .inl (fun _ => zI 0))), (q5, .inl (cA 0, 7, .inl (fun _ => zI 0))), (q6, .inl (cA 0, 12, .inl (fun _ => zI 0))), (q7, .inl (cA 0, 12, .inl (fun _ => zI 0)))]) _ _ _ _ _
  refine u_aload_n C 0 dX3_init_60 rfl ?_
  refine u_iconst (v := zI 4) C dX3_init_61 (by decide) ?_
  refine u_newa (ty := .int) (N := 4) (a0 := (4, .inl (fun _ => zI 0))) C rfl wd_110 0 rfl (fun _ h => by cases h) (fun _ => rfl) (by decide) (by decide) (by decide) (by decide) (by decide) dX3_init_62 (fun q8 => ?_)
  rw [cw_new]
  refine u_putF C hin kX3 p 15 (cw_get hpl) (by decide) wd_171 rfl rfl rfl rfl rfl (Nat.le_of_ble_eq_true rfl) dX3_init_64 ?_
  rw [cw_set hpl]
  show UC _ _ X (ws.set p (h0, .inr (3, [.int (zI 0), .int (zI 0), .int (zI 0), .int (zI 0), .int (zI 0), .int (zI 0), .int (zI 0), .int (zI 0), .ref q1, .ref q2, .ref q3, .ref q4, .ref q5, .ref q6, .ref q7, .ref q8])) ++ [(q1, .inl (cA 0, 8, .inl (fun _ => zI 0))), (q2, .inl (cA 0, 8, .inl (fun _ => zI 0))), (q3, .inl (cA 0, 8, .inl (fun _ => zI 0))), (q4, .inl (cA 0, 7, .inl (fun _ => zI 0))), (q5, .inl (cA 0, 7, .inl (fun _ => zI 0))), (q6, .inl (cA 0, 12, .inl (fun _ => zI 0))), (q7, .inl (cA 0, 12, .inl (fun _ => zI 0))), (q8, .inl (cA 0, 4, .inl (fun _ => zI 0)))]) _ _ _ _ _
  exact u_vret C E dX3_init_67 (q1, q2, q3, q4, q5, q6, q7, q8) (fun U h => h)
set_option maxRecDepth 100000 in
theorem k_X2_init (D : va_G) (cA : Nat → ClassId) (A : Nat → Prop) (l : Launch) {ws : va_W} {p h0 : Nat} (hp : ws[p]? = some (h0, .inr (2, [.int (zI 0), .int (zI 0), .null, .null, .null]))) : MU D [(cA 0, .int), (cA 1, .long), (cA 2, .boolean), (cA 3, .object "KnownWeight$Heads")] A l yX2_init cX2_init 1 3 72 12 h0 ws (fun _ => True) (S := Nat × Nat × Nat) (fun u => PW D [(cA 0, .int), (cA 1, .long), (cA 2, .boolean), (cA 3, .object "KnownWeight$Heads")] A (ws.set p (h0, .inr (2, [.int (zI 0), .int (zI 0), .ref (u.1), .ref (u.2.1), .ref (u.2.2)])) ++ [((u.1), .inl (cA 0, 8, .inl (fun _ => zI 0))), ((u.2.1), .inl (cA 0, 8, .inl (fun _ => zI 0))), ((u.2.2), .inl (cA 0, 56, .inl (fun _ => zI 0)))])) := by
  have hpl : p < ws.length := (List.getElem?_eq_some_iff.mp hp).1
  refine mu_of D _ A l (by decide) rfl (fun X C hin hex E => ?_)
  refine u_eq (cw_0 hp) ?_
  refine u_aload_n C 0 dX2_init_0 rfl ?_
  refine u_obj C wd_212 wd_81 wd_82 dX2_init_1 (by decide) (by decide) ?_
  refine u_aload_n C 0 dX2_init_4 rfl ?_
  refine u_bipush (v := zI 8) C dX2_init_5 (by decide) ?_
  refine u_newa (ty := .int) (N := 8) (a0 := (8, .inl (fun _ => zI 0))) C rfl wd_110 0 rfl (fun _ h => by cases h) (fun _ => rfl) (by decide) (by decide) (by decide) (by decide) (by decide) dX2_init_7 (fun q1 => ?_)
  rw [cw_new]
  refine u_putF C hin kX2 p 2 (cw_get hpl) (by decide) wd_217 rfl rfl rfl rfl rfl (Nat.le_of_ble_eq_true rfl) dX2_init_9 ?_
  rw [cw_set hpl]
  show UC _ _ X (ws.set p (h0, .inr (2, [.int (zI 0), .int (zI 0), .ref q1, .null, .null])) ++ [(q1, .inl (cA 0, 8, .inl (fun _ => zI 0)))]) _ _ _ _ _
  refine u_aload_n C 0 dX2_init_12 rfl ?_
  refine u_bipush (v := zI 8) C dX2_init_13 (by decide) ?_
  refine u_newa (ty := .int) (N := 8) (a0 := (8, .inl (fun _ => zI 0))) C rfl wd_110 0 rfl (fun _ h => by cases h) (fun _ => rfl) (by decide) (by decide) (by decide) (by decide) (by decide) dX2_init_15 (fun q2 => ?_)
  rw [cw_new]
  refine u_putF C hin kX2 p 3 (cw_get hpl) (by decide) wd_219 rfl rfl rfl rfl rfl (Nat.le_of_ble_eq_true rfl) dX2_init_17 ?_
  rw [cw_set hpl]
  show UC _ _ X (ws.set p (h0, .inr (2, [.int (zI 0), .int (zI 0), .ref q1, .ref q2, .null])) ++ [(q1, .inl (cA 0, 8, .inl (fun _ => zI 0))), (q2, .inl (cA 0, 8, .inl (fun _ => zI 0)))]) _ _ _ _ _
  refine u_aload_n C 0 dX2_init_20 rfl ?_
  refine u_bipush (v := zI 56) C dX2_init_21 (by decide) ?_
  refine u_newa (ty := .int) (N := 56) (a0 := (56, .inl (fun _ => zI 0))) C rfl wd_110 0 rfl (fun _ h => by cases h) (fun _ => rfl) (by decide) (by decide) (by decide) (by decide) (by decide) dX2_init_23 (fun q3 => ?_)
  rw [cw_new]
  refine u_putF C hin kX2 p 4 (cw_get hpl) (by decide) wd_220 rfl rfl rfl rfl rfl (Nat.le_of_ble_eq_true rfl) dX2_init_25 ?_
  rw [cw_set hpl]
  show UC _ _ X (ws.set p (h0, .inr (2, [.int (zI 0), .int (zI 0), .ref q1, .ref q2, .ref q3])) ++ [(q1, .inl (cA 0, 8, .inl (fun _ => zI 0))), (q2, .inl (cA 0, 8, .inl (fun _ => zI 0))), (q3, .inl (cA 0, 56, .inl (fun _ => zI 0)))]) _ _ _ _ _
  exact u_vret C E dX2_init_28 (q1, q2, q3) (fun U h => h)
set_option maxRecDepth 100000 in
theorem k_X6_init (D : va_G) (cA : Nat → ClassId) (A : Nat → Prop) (l : Launch) {ws : va_W} {p h0 : Nat} (hp : ws[p]? = some (h0, .inr (6, [.int (zI 0), .null, .null]))) : MU D [(cA 0, .int), (cA 1, .long), (cA 2, .boolean), (cA 3, .object "KnownWeight$Heads")] A l yX6_init cX6_init 1 2 30 12 h0 ws (fun _ => True) (S := Nat × Nat) (fun u => PW D [(cA 0, .int), (cA 1, .long), (cA 2, .boolean), (cA 3, .object "KnownWeight$Heads")] A (ws.set p (h0, .inr (6, [.int (zI 0), .ref (u.1), .ref (u.2)])) ++ [((u.1), .inl (cA 0, 15, .inl (fun _ => zI 0))), ((u.2), .inl (cA 0, 15, .inl (fun _ => zI 0)))])) := by
  have hpl : p < ws.length := (List.getElem?_eq_some_iff.mp hp).1
  refine mu_of D _ A l (by decide) rfl (fun X C hin hex E => ?_)
  refine u_eq (cw_0 hp) ?_
  refine u_aload_n C 0 dX6_init_0 rfl ?_
  refine u_obj C wd_238 wd_81 wd_82 dX6_init_1 (by decide) (by decide) ?_
  refine u_aload_n C 0 dX6_init_4 rfl ?_
  refine u_bipush (v := zI 15) C dX6_init_5 (by decide) ?_
  refine u_newa (ty := .int) (N := 15) (a0 := (15, .inl (fun _ => zI 0))) C rfl wd_110 0 rfl (fun _ h => by cases h) (fun _ => rfl) (by decide) (by decide) (by decide) (by decide) (by decide) dX6_init_7 (fun q1 => ?_)
  rw [cw_new]
  refine u_putF C hin kX6 p 1 (cw_get hpl) (by decide) wd_241 rfl rfl rfl rfl rfl (Nat.le_of_ble_eq_true rfl) dX6_init_9 ?_
  rw [cw_set hpl]
  show UC _ _ X (ws.set p (h0, .inr (6, [.int (zI 0), .ref q1, .null])) ++ [(q1, .inl (cA 0, 15, .inl (fun _ => zI 0)))]) _ _ _ _ _
  refine u_aload_n C 0 dX6_init_12 rfl ?_
  refine u_bipush (v := zI 15) C dX6_init_13 (by decide) ?_
  refine u_newa (ty := .int) (N := 15) (a0 := (15, .inl (fun _ => zI 0))) C rfl wd_110 0 rfl (fun _ h => by cases h) (fun _ => rfl) (by decide) (by decide) (by decide) (by decide) (by decide) dX6_init_15 (fun q2 => ?_)
  rw [cw_new]
  refine u_putF C hin kX6 p 2 (cw_get hpl) (by decide) wd_242 rfl rfl rfl rfl rfl (Nat.le_of_ble_eq_true rfl) dX6_init_17 ?_
  rw [cw_set hpl]
  show UC _ _ X (ws.set p (h0, .inr (6, [.int (zI 0), .ref q1, .ref q2])) ++ [(q1, .inl (cA 0, 15, .inl (fun _ => zI 0))), (q2, .inl (cA 0, 15, .inl (fun _ => zI 0)))]) _ _ _ _ _
  exact u_vret C E dX6_init_20 (q1, q2) (fun U h => h)
set_option maxRecDepth 100000 in
theorem k_X1_init (D : va_G) (cA : Nat → ClassId) (A : Nat → Prop) (l : Launch) {ws : va_W} {p h0 : Nat} (hp : ws[p]? = some (h0, .inr (1, [.null, .null, .int (zI 0)]))) : MU D [(cA 0, .int), (cA 1, .long), (cA 2, .boolean), (cA 3, .object "KnownWeight$Heads")] A l yX1_init cX1_init 1 2 256 12 h0 ws (fun _ => True) (S := Nat × Nat) (fun u => PW D [(cA 0, .int), (cA 1, .long), (cA 2, .boolean), (cA 3, .object "KnownWeight$Heads")] A (ws.set p (h0, .inr (1, [.ref (u.1), .ref (u.2), .int (zI 0)])) ++ [((u.1), .inl (cA 0, 128, .inl (fun _ => zI 0))), ((u.2), .inl (cA 0, 128, .inl (fun _ => zI 0)))])) := by
  have hpl : p < ws.length := (List.getElem?_eq_some_iff.mp hp).1
  refine mu_of D _ A l (by decide) rfl (fun X C hin hex E => ?_)
  refine u_eq (cw_0 hp) ?_
  refine u_aload_n C 0 dX1_init_0 rfl ?_
  refine u_obj C wd_255 wd_81 wd_82 dX1_init_1 (by decide) (by decide) ?_
  refine u_aload_n C 0 dX1_init_4 rfl ?_
  refine u_sipush (v := zI 128) C dX1_init_5 (by decide) ?_
  refine u_newa (ty := .int) (N := 128) (a0 := (128, .inl (fun _ => zI 0))) C rfl wd_110 0 rfl (fun _ h => by cases h) (fun _ => rfl) (by decide) (by decide) (by decide) (by decide) (by decide) dX1_init_8 (fun q1 => ?_)
  rw [cw_new]
  refine u_putF C hin kX1 p 0 (cw_get hpl) (by decide) wd_256 rfl rfl rfl rfl rfl (Nat.le_of_ble_eq_true rfl) dX1_init_10 ?_
  rw [cw_set hpl]
  show UC _ _ X (ws.set p (h0, .inr (1, [.ref q1, .null, .int (zI 0)])) ++ [(q1, .inl (cA 0, 128, .inl (fun _ => zI 0)))]) _ _ _ _ _
  refine u_aload_n C 0 dX1_init_13 rfl ?_
  refine u_sipush (v := zI 128) C dX1_init_14 (by decide) ?_
  refine u_newa (ty := .int) (N := 128) (a0 := (128, .inl (fun _ => zI 0))) C rfl wd_110 0 rfl (fun _ h => by cases h) (fun _ => rfl) (by decide) (by decide) (by decide) (by decide) (by decide) dX1_init_17 (fun q2 => ?_)
  rw [cw_new]
  refine u_putF C hin kX1 p 1 (cw_get hpl) (by decide) wd_258 rfl rfl rfl rfl rfl (Nat.le_of_ble_eq_true rfl) dX1_init_19 ?_
  rw [cw_set hpl]
  show UC _ _ X (ws.set p (h0, .inr (1, [.ref q1, .ref q2, .int (zI 0)])) ++ [(q1, .inl (cA 0, 128, .inl (fun _ => zI 0))), (q2, .inl (cA 0, 128, .inl (fun _ => zI 0)))]) _ _ _ _ _
  exact u_vret C E dX1_init_22 (q1, q2) (fun U h => h)
set_option maxRecDepth 100000 in
theorem k_X7_init (D : va_G) (cA : Nat → ClassId) (A : Nat → Prop) (l : Launch) {ws : va_W} {p h0 : Nat} (hp : ws[p]? = some (h0, .inr (7, [.null, .int (zI 0), .int (zI 0)]))) : MU D [(cA 0, .int), (cA 1, .long), (cA 2, .boolean), (cA 3, .object "KnownWeight$Heads")] A l yX7_init cX7_init 1 1 433 12 h0 ws (fun _ => True) (S := Nat) (fun u => PW D [(cA 0, .int), (cA 1, .long), (cA 2, .boolean), (cA 3, .object "KnownWeight$Heads")] A (ws.set p (h0, .inr (7, [.ref (u), .int (zI 0), .int (zI 0)])) ++ [((u), .inl (cA 0, 433, .inl (fun _ => zI 0)))])) := by
  have hpl : p < ws.length := (List.getElem?_eq_some_iff.mp hp).1
  refine mu_of D _ A l (by decide) rfl (fun X C hin hex E => ?_)
  refine u_eq (cw_0 hp) ?_
  refine u_aload_n C 0 dX7_init_0 rfl ?_
  refine u_obj C wd_272 wd_81 wd_82 dX7_init_1 (by decide) (by decide) ?_
  refine u_aload_n C 0 dX7_init_4 rfl ?_
  refine u_sipush (v := zI 433) C dX7_init_5 (by decide) ?_
  refine u_newa (ty := .int) (N := 433) (a0 := (433, .inl (fun _ => zI 0))) C rfl wd_110 0 rfl (fun _ h => by cases h) (fun _ => rfl) (by decide) (by decide) (by decide) (by decide) (by decide) dX7_init_8 (fun q1 => ?_)
  rw [cw_new]
  refine u_putF C hin kX7 p 0 (cw_get hpl) (by decide) wd_273 rfl rfl rfl rfl rfl (Nat.le_of_ble_eq_true rfl) dX7_init_10 ?_
  rw [cw_set hpl]
  show UC _ _ X (ws.set p (h0, .inr (7, [.ref q1, .int (zI 0), .int (zI 0)])) ++ [(q1, .inl (cA 0, 433, .inl (fun _ => zI 0)))]) _ _ _ _ _
  exact u_vret C E dX7_init_13 (q1) (fun U h => h)
set_option maxRecDepth 100000 in
theorem k_X0_init (D : va_G) (cA : Nat → ClassId) (A : Nat → Prop) (l : Launch) {ws : va_W} {p h0 : Nat} (hp : ws[p]? = some (h0, .inr (0, [.null, .int (zI 0), .int (zI 0), .int (zI 0)]))) : MU D [(cA 0, .int), (cA 1, .long), (cA 2, .boolean), (cA 3, .object "KnownWeight$Heads")] A l yX0_init cX0_init 1 1 433 12 h0 ws (fun _ => True) (S := Nat) (fun u => PW D [(cA 0, .int), (cA 1, .long), (cA 2, .boolean), (cA 3, .object "KnownWeight$Heads")] A (ws.set p (h0, .inr (0, [.ref (u), .int (zI 0), .int (zI 0), .int (zI 0)])) ++ [((u), .inl (cA 0, 433, .inl (fun _ => zI 0)))])) := by
  have hpl : p < ws.length := (List.getElem?_eq_some_iff.mp hp).1
  refine mu_of D _ A l (by decide) rfl (fun X C hin hex E => ?_)
  refine u_eq (cw_0 hp) ?_
  refine u_aload_n C 0 dX0_init_0 rfl ?_
  refine u_obj C wd_288 wd_81 wd_82 dX0_init_1 (by decide) (by decide) ?_
  refine u_aload_n C 0 dX0_init_4 rfl ?_
  refine u_sipush (v := zI 433) C dX0_init_5 (by decide) ?_
  refine u_newa (ty := .int) (N := 433) (a0 := (433, .inl (fun _ => zI 0))) C rfl wd_110 0 rfl (fun _ h => by cases h) (fun _ => rfl) (by decide) (by decide) (by decide) (by decide) (by decide) dX0_init_8 (fun q1 => ?_)
  rw [cw_new]
  refine u_putF C hin kX0 p 0 (cw_get hpl) (by decide) wd_289 rfl rfl rfl rfl rfl (Nat.le_of_ble_eq_true rfl) dX0_init_10 ?_
  rw [cw_set hpl]
  show UC _ _ X (ws.set p (h0, .inr (0, [.ref q1, .int (zI 0), .int (zI 0), .int (zI 0)])) ++ [(q1, .inl (cA 0, 433, .inl (fun _ => zI 0)))]) _ _ _ _ _
  exact u_vret C E dX0_init_13 (q1) (fun U h => h)
set_option maxRecDepth 100000 in
theorem k_X5_init (D : va_G) (cA : Nat → ClassId) (A : Nat → Prop) (l : Launch) {ws : va_W} {p h0 : Nat} (hp : ws[p]? = some (h0, .inr (5, [.null, .null]))) : MU D [(cA 0, .int), (cA 1, .long), (cA 2, .boolean), (cA 3, .object "KnownWeight$Heads")] A l yX5_init cX5_init 1 2 146 12 h0 ws (fun _ => True) (S := Nat × Nat) (fun u => PW D [(cA 0, .int), (cA 1, .long), (cA 2, .boolean), (cA 3, .object "KnownWeight$Heads")] A (ws.set p (h0, .inr (5, [.ref (u.1), .ref (u.2)])) ++ [((u.1), .inl (cA 0, 73, .inl (fun _ => zI 0))), ((u.2), .inl (cA 0, 73, .inl (fun _ => zI 0)))])) := by
  have hpl : p < ws.length := (List.getElem?_eq_some_iff.mp hp).1
  refine mu_of D _ A l (by decide) rfl (fun X C hin hex E => ?_)
  refine u_eq (cw_0 hp) ?_
  refine u_aload_n C 0 dX5_init_0 rfl ?_
  refine u_obj C wd_307 wd_81 wd_82 dX5_init_1 (by decide) (by decide) ?_
  refine u_aload_n C 0 dX5_init_4 rfl ?_
  refine u_bipush (v := zI 73) C dX5_init_5 (by decide) ?_
  refine u_newa (ty := .int) (N := 73) (a0 := (73, .inl (fun _ => zI 0))) C rfl wd_110 0 rfl (fun _ h => by cases h) (fun _ => rfl) (by decide) (by decide) (by decide) (by decide) (by decide) dX5_init_7 (fun q1 => ?_)
  rw [cw_new]
  refine u_putF C hin kX5 p 0 (cw_get hpl) (by decide) wd_308 rfl rfl rfl rfl rfl (Nat.le_of_ble_eq_true rfl) dX5_init_9 ?_
  rw [cw_set hpl]
  show UC _ _ X (ws.set p (h0, .inr (5, [.ref q1, .null])) ++ [(q1, .inl (cA 0, 73, .inl (fun _ => zI 0)))]) _ _ _ _ _
  refine u_aload_n C 0 dX5_init_12 rfl ?_
  refine u_bipush (v := zI 73) C dX5_init_13 (by decide) ?_
  refine u_newa (ty := .int) (N := 73) (a0 := (73, .inl (fun _ => zI 0))) C rfl wd_110 0 rfl (fun _ h => by cases h) (fun _ => rfl) (by decide) (by decide) (by decide) (by decide) (by decide) dX5_init_15 (fun q2 => ?_)
  rw [cw_new]
  refine u_putF C hin kX5 p 1 (cw_get hpl) (by decide) wd_310 rfl rfl rfl rfl rfl (Nat.le_of_ble_eq_true rfl) dX5_init_17 ?_
  rw [cw_set hpl]
  show UC _ _ X (ws.set p (h0, .inr (5, [.ref q1, .ref q2])) ++ [(q1, .inl (cA 0, 73, .inl (fun _ => zI 0))), (q2, .inl (cA 0, 73, .inl (fun _ => zI 0)))]) _ _ _ _ _
  exact u_vret C E dX5_init_20 (q1, q2) (fun U h => h)
