/-! what a method's contract says over the world; its entry, its ends, its calls -/
def Wd (G : GT) (T : TH) (U : State) : Prop := lOK T ∧ va_P (gD G) vwCl (wsG G T) U.heap ∧ va_K (gD G) vwCl (tysG G) U ∧ va_D (gA G) (wsG G T)
def QI (G : GT) (q : Int → TH → Prop) : Array Value → State → Outcome → State → Prop := va_Qi (S := TH) (fun r T => ∃ z, r = zI z ∧ q z T) (Wd G) (gA G)
def QZ (G : GT) (q : Bool → TH → Prop) : Array Value → State → Outcome → State → Prop := va_Qi (S := TH) (fun r T => ∃ z, r = zI (zi z) ∧ q z T) (Wd G) (gA G)
def QL (G : GT) (q : Int → TH → Prop) : Array Value → State → Outcome → State → Prop := va_Ql (S := TH) (fun r T => ∃ z, r = zJ z ∧ q z T) (Wd G) (gA G)
def QV (G : GT) (q : TH → Prop) : Array Value → State → Outcome → State → Prop := va_Qv (S := TH) q (Wd G) (gA G)
def wM (y : MethodName) (bytes : ByteArray) (maxL : Nat) (ret : Option FieldType) : List Cond := Cond.code y bytes maxL ret :: lw_g
def rM (f n : Nat) : Room := { frames := f, cells := 0, slots := 0, locals := n }
def MT (G : GT) (l : Launch) (y : MethodName) (bytes : ByteArray) (maxL : Nat) (ret : Option FieldType) (f n : Nat) (av : List Value) (T : TH) (Qc : Array Value → State → Outcome → State → Prop) : Prop := Met l y (wM y bytes maxL ret) (rM f n) (va_Pc av (Wd G T)) Qc 0 0 (gA G)
def EN (G : GT) (X : CX) (ret : Option FieldType) (Qc : Array Value → State → Outcome → State → Prop) : Prop := match X with
  | (_, _, _, _, s, _, args, below, meth, _, nc, ns, Q) => meth.sig.returnType = ret ∧ meth.locks = false ∧ nc = 0 ∧ ns = 0 ∧ Q = MQ below Qc args s 0 0 (gA G)
theorem mt_of (G : GT) (l : Launch) {y : MethodName} {bytes : ByteArray} {maxL : Nat} {ret : Option FieldType} {f n : Nat} {av : List Value} {T : TH} {Qc : Array Value → State → Outcome → State → Prop} (hy : plainName y.cls = true) (hav : (lg_sl av).length ≤ maxL)
    (body : ∀ X : CX, CT G l X bytes maxL y.cls (rM f n) → EN G X ret Qc → V G X T 0 (lv_args 0 av) []) : MT G l y bytes maxL ret f n av T Qc := by
  refine Met.ofW (cc := bytes) (maxL := maxL) (ret := ret) hy rfl ?_
  intro p e s m args below meth c s₁ B hml hv
  obtain ⟨rfl, w1, w2, w3, w4⟩ := hv
  have hts := atoms_spec (ws := wM y bytes maxL ret) B.pre
  have hown : s.vm.findClass y.cls = some m.cls := findClass_of_methodNamed B.named
  have hl := lv_entry av (n := maxL) hav
  rw [lg_entry_eq]
  refine body (p, l, e, (headSpec (wM y bytes maxL ret) (rM f n)).room, s, m, av.toArray, below, meth, c, 0, 0, MQ below Qc av.toArray s 0 0 (gA G)) ⟨B.exec, B.bytes, hml, hown, fun w hw => hts w (List.mem_cons_of_mem _ hw), w3, rfl, Nat.zero_le _, Nat.zero_le _, rfl⟩ ⟨B.returns, B.notSynchronized, rfl, rfl, rfl⟩ s.heap [] _ w1 w2 w4 va_S.rf ?_
  rw [hml]
  exact hl
theorem v_iret {G : GT} {X : CX} {Th : TH} {pc : Nat} {lv : List (Nat × Value)} {cc : ByteArray} {nL : Nat} {own : String} {rm : Room} {l0 : Launch} (C : CT G l0 X cc nL own rm) {q : Int → TH → Prop} (E : EN G X (some .int) (QI G q)) {z : Int} (hd : decode cc pc = .ok (.ireturn, 1)) (hq : q z Th) : V G X Th pc lv [.int (zI z)] := by
  obtain ⟨p, l, e, R, s, m, args, below, meth, c, nc, ns, Q⟩ := X
  obtain ⟨hx, hb, hml, hown, hts, hK, hR, hcc, hss, -⟩ := C
  obtain ⟨hr, hlk, rfl, rfl, rfl⟩ := E
  intro H locs ls h1 h2 h3 h4 h5
  exact W.iret (v := zI z) hx hb hr (fun t ht hW => ⟨⟨zI z, Th, rfl, ⟨z, rfl, hq⟩, h1, by rw [ht]; exact h2, va_K.moved hW.alike hK, h3⟩, h4.F ht⟩) h4.2.2 hd hlk
theorem v_zret {G : GT} {X : CX} {Th : TH} {pc : Nat} {lv : List (Nat × Value)} {cc : ByteArray} {nL : Nat} {own : String} {rm : Room} {l0 : Launch} (C : CT G l0 X cc nL own rm) {q : Bool → TH → Prop} (E : EN G X (some .boolean) (QZ G q)) {z : Bool} (hd : decode cc pc = .ok (.ireturn, 1)) (hq : q z Th) : V G X Th pc lv [.int (zI (zi z))] := by
  obtain ⟨p, l, e, R, s, m, args, below, meth, c, nc, ns, Q⟩ := X
  obtain ⟨hx, hb, hml, hown, hts, hK, hR, hcc, hss, -⟩ := C
  obtain ⟨hr, hlk, rfl, rfl, rfl⟩ := E
  intro H locs ls h1 h2 h3 h4 h5
  exact W.zret (v := zI (zi z)) (ty := .boolean) hx hb hr (by cases z <;> rfl) (fun t ht hW => ⟨⟨zI (zi z), Th, rfl, ⟨z, rfl, hq⟩, h1, by rw [ht]; exact h2, va_K.moved hW.alike hK, h3⟩, h4.F ht⟩) h4.2.2 hd hlk
theorem v_lret {G : GT} {X : CX} {Th : TH} {pc : Nat} {lv : List (Nat × Value)} {cc : ByteArray} {nL : Nat} {own : String} {rm : Room} {l0 : Launch} (C : CT G l0 X cc nL own rm) {q : Int → TH → Prop} (E : EN G X (some .long) (QL G q)) {z : Int} (hd : decode cc pc = .ok (.lreturn, 1)) (hq : q z Th) : V G X Th pc lv [.long (zJ z)] := by
  obtain ⟨p, l, e, R, s, m, args, below, meth, c, nc, ns, Q⟩ := X
  obtain ⟨hx, hb, hml, hown, hts, hK, hR, hcc, hss, -⟩ := C
  obtain ⟨hr, hlk, rfl, rfl, rfl⟩ := E
  intro H locs ls h1 h2 h3 h4 h5
  exact W.lret (v := zJ z) hx hb hr (fun t ht hW => ⟨⟨zJ z, Th, rfl, ⟨z, rfl, hq⟩, h1, by rw [ht]; exact h2, va_K.moved hW.alike hK, h3⟩, h4.F ht⟩) h4.2.2 hd hlk
theorem v_vret {G : GT} {X : CX} {Th : TH} {pc : Nat} {lv : List (Nat × Value)} {cc : ByteArray} {nL : Nat} {own : String} {rm : Room} {l0 : Launch} (C : CT G l0 X cc nL own rm) {q : TH → Prop} (E : EN G X none (QV G q)) (hd : decode cc pc = .ok (.return_, 1)) (hq : q Th) : V G X Th pc lv [] := by
  obtain ⟨p, l, e, R, s, m, args, below, meth, c, nc, ns, Q⟩ := X
  obtain ⟨hx, hb, hml, hown, hts, hK, hR, hcc, hss, -⟩ := C
  obtain ⟨hr, hlk, rfl, rfl, rfl⟩ := E
  intro H locs ls h1 h2 h3 h4 h5
  exact W.vret hx hb hr (fun t ht hW => ⟨⟨Th, rfl, hq, h1, by rw [ht]; exact h2, va_K.moved hW.alike hK, h3⟩, h4.F ht⟩) h4.2.2 hd hlk
/-- what the tables say of a method that is called on an object; of a static one -/
def MV (y : MethodName) (bytes : ByteArray) (maxL : Nat) (ret : Option FieldType) (n : Nat) : Prop := Cond.instanceMethod y ∈ lw_g ∧ Cond.selects y.cls y y ∈ lw_g ∧ Cond.initialized y.cls ∈ lw_g ∧ Cond.code y bytes maxL ret ∈ lw_g ∧ (y.cls ≠ "java/lang/invoke/MethodHandle" ∧ y.cls ≠ "java/lang/invoke/VarHandle" ∧ (parseMethodDescriptor y.desc).map (fun d => d.parameters.length) = some n)
def MS (y : MethodName) (bytes : ByteArray) (maxL : Nat) (ret : Option FieldType) (n : Nat) : Prop := Cond.static y ∈ lw_g ∧ Cond.initialized y.cls ∈ lw_g ∧ Cond.code y bytes maxL ret ∈ lw_g ∧ (y.cls ≠ "java/lang/invoke/MethodHandle" ∧ y.cls ≠ "java/lang/invoke/VarHandle" ∧ (parseMethodDescriptor y.desc).map (fun d => d.parameters.length) = some n)
theorem Wd_blind (G : GT) (T : TH) (av : List Value) : FrameBlind (va_Pc av (Wd G T)) := fun a U g mk q => by
  obtain ⟨q0, q1, qP, qK, qD⟩ := q
  exact ⟨q0, q1, qP, va_K.moved (u := U) (U := U.calling g mk a) (Vm.Alike.refl U.vm) qK, qD⟩
theorem v_runV {G : GT} {X : CX} {Th : TH} {pc : Nat} {lv : List (Nat × Value)} {st st0 : List Value} {cc : ByteArray} {nL : Nat} {own : String} {f0 n0 : Nat} {rm : Room} {l0 : Launch} (C : CT G l0 X cc nL own rm) {y : MethodName} {bytes : ByteArray} {maxL : Nat} {ret : Option FieldType} {n index : Nat} {As : List Value} {Qc : Array Value → State → Outcome → State → Prop} {o ci : Nat} {Tb : u_T} {N : Nat} {ty : Nat → FieldType} (kx : KX ci y.cls Tb N ty) (ho : clsO o = ci)
    (hM : MT G l0 y bytes maxL ret f0 n0 (.ref (gad G o) :: As) Th Qc) (mv : MV y bytes maxL ret n) (hw : Cond.methodLink own index y ∈ lw_g) (hr : f0 + 1 ≤ rm.frames ∧ 8 + (maxL + 11) + n0 ≤ rm.locals) (hn : As.length = n) (hst : st0 = As.reverse ++ .ref (gad G o) :: st) (hW : (st.map fun v => v.category).sum ≤ 8) (hd : decode cc pc = .ok (.invokevirtual index, 3)) :
    match X with | (p, l, e, R, s, m, args, below, meth, c, nc, ns, Q) => ∀ (H : Heap) (locs : List Loc) (ls : Array Slot), lOK Th → va_P (gD G) vwCl (wsG G Th) H → va_D (gA G) (wsG G Th) → lv_has ls c.maxLocals lv → va_Run p l e R s m args below meth c H locs nc ns 0 0 (F0 m pc ls st0) st (Qc (Value.ref (gad G o) :: As).toArray) (gA G) := by
  obtain ⟨p, l, e, R, s, m, args, below, meth, c, nc, ns, Q⟩ := X
  obtain ⟨hx, hb, hml, hown, hts, hK, hR, hcc, hss, hl0⟩ := C
  intro H locs ls h1 h2 h3 h5
  subst hl0 hR
  obtain ⟨m1, m2, m3, m4, m5⟩ := mv
  obtain ⟨kc, ki, -, -, kn, k10⟩ := kx
  subst ho
  obtain ⟨q, hq70, hq⟩ := wsT_obj o (clsO_lt rfl k10)
  refine va_runV (C := y.cls) (As := As) ⟨hx, hb, rfl, hown, hts⟩ hM (cwV n hts ?_ rfl rfl rfl ⟨rfl, m5⟩ hr) ⟨Wd_blind G Th _, va_recv hK h2 kc (ws_at G Th hq), fun U hU hW => ⟨rfl, h1, by rw [hU]; exact h2, va_K.moved hW.alike hK, h3⟩⟩ rfl hn h5.1 hst (lv_room hW) hd ⟨hcc, hss⟩
  refine tbl_goodIn (ws := [.methodLink own index y, .instanceMethod y, .selects y.cls y y, .initialized y.cls]) m4 (fun x hx9 => ?_)
  simp only [List.mem_cons, List.not_mem_nil, or_false] at hx9
  rcases hx9 with rfl | rfl | rfl | rfl
  · exact hw
  · exact m1
  · exact m2
  · exact m3
theorem v_runS {G : GT} {X : CX} {Th : TH} {pc : Nat} {lv : List (Nat × Value)} {st st0 : List Value} {cc : ByteArray} {nL : Nat} {own : String} {f0 n0 : Nat} {rm : Room} {l0 : Launch} (C : CT G l0 X cc nL own rm) {y : MethodName} {bytes : ByteArray} {maxL : Nat} {ret : Option FieldType} {n index : Nat} {As : List Value} {Qc : Array Value → State → Outcome → State → Prop}
    (hM : MT G l0 y bytes maxL ret f0 n0 As Th Qc) (mv : MS y bytes maxL ret n) (hw : Cond.methodLink own index y ∈ lw_g) (hr : f0 + 1 ≤ rm.frames ∧ 8 + (maxL + 11) + n0 ≤ rm.locals) (hn : As.length = n) (hst : st0 = As.reverse ++ st) (hW : (st.map fun v => v.category).sum ≤ 8) (hd : decode cc pc = .ok (.invokestatic index, 3)) :
    match X with | (p, l, e, R, s, m, args, below, meth, c, nc, ns, Q) => ∀ (H : Heap) (locs : List Loc) (ls : Array Slot), lOK Th → va_P (gD G) vwCl (wsG G Th) H → va_D (gA G) (wsG G Th) → lv_has ls c.maxLocals lv → va_Run p l e R s m args below meth c H locs nc ns 0 0 (F0 m pc ls st0) st (Qc As.toArray) (gA G) := by
  obtain ⟨p, l, e, R, s, m, args, below, meth, c, nc, ns, Q⟩ := X
  obtain ⟨hx, hb, hml, hown, hts, hK, hR, hcc, hss, hl0⟩ := C
  intro H locs ls h1 h2 h3 h5
  subst hl0 hR
  obtain ⟨m1, m3, m4, m5⟩ := mv
  refine va_runS (As := As) ⟨hx, hb, rfl, hown, hts⟩ hM (va_cwS n hts ?_ rfl rfl rfl m5 hr) ⟨Wd_blind G Th _, fun U hU hW => ⟨rfl, h1, by rw [hU]; exact h2, va_K.moved hW.alike hK, h3⟩⟩ rfl hn h5.1 hst (lv_room hW) hd ⟨hcc, hss⟩
  refine tbl_goodIn (ws := [.methodLink own index y, .static y, .initialized y.cls]) m4 (fun x hx9 => ?_)
  simp only [List.mem_cons, List.not_mem_nil, or_false] at hx9
  rcases hx9 with rfl | rfl | rfl
  · exact hw
  · exact m1
  · exact m3

theorem v_cVI {G : GT} {X : CX} {Th : TH} {pc : Nat} {lv : List (Nat × Value)} {st st0 : List Value} {cc : ByteArray} {nL : Nat} {own : String} {f0 n0 : Nat} {rm : Room} {l0 : Launch} (C : CT G l0 X cc nL own rm) {y : MethodName} {bytes : ByteArray} {maxL : Nat} {n index : Nat} {As : List Value} {q : Int → TH → Prop} {o ci : Nat} {Tb : u_T} {N : Nat} {ty : Nat → FieldType} (kx : KX ci y.cls Tb N ty) (ho : clsO o = ci) (hM : MT G l0 y bytes maxL (some .int) f0 n0 (.ref (gad G o) :: As) Th (QI G q)) (mv : MV y bytes maxL (some .int) n) (hw : Cond.methodLink own index y ∈ lw_g) (hr : f0 + 1 ≤ rm.frames ∧ 8 + (maxL + 11) + n0 ≤ rm.locals) (hn : As.length = n) (hst : st0 = As.reverse ++ .ref (gad G o) :: st) (hW : (st.map fun v => v.category).sum ≤ 8) (hd : decode cc pc = .ok (.invokevirtual index, 3)) (k : ∀ z T, q z T → V G X T (pc + 3) lv (.int (zI z) :: st)) : V G X Th pc lv st0 := by
  have run := v_runV (lv := lv) C kx ho hM mv hw hr hn hst hW hd
  obtain ⟨p, l, e, R, s, m, args, below, meth, c, nc, ns, Q⟩ := X
  intro H locs ls h1 h2 h3 h4 h5
  refine va_calli (run H locs ls h1 h2 h3 h5) h4 (fun _ _ h => h) (fun _ h => h) (fun r T t H1 locs1 ht hvm hp hB hz hk hS => ?_)
  obtain ⟨b1, b2, b3, b4⟩ := hB
  rw [ht] at b2
  obtain ⟨z, rfl, hq⟩ := hp
  exact k z T hq H1 locs1 ls b1 b2 b4 hS h5

theorem v_cVZ {G : GT} {X : CX} {Th : TH} {pc : Nat} {lv : List (Nat × Value)} {st st0 : List Value} {cc : ByteArray} {nL : Nat} {own : String} {f0 n0 : Nat} {rm : Room} {l0 : Launch} (C : CT G l0 X cc nL own rm) {y : MethodName} {bytes : ByteArray} {maxL : Nat} {n index : Nat} {As : List Value} {q : Bool → TH → Prop} {o ci : Nat} {Tb : u_T} {N : Nat} {ty : Nat → FieldType} (kx : KX ci y.cls Tb N ty) (ho : clsO o = ci) (hM : MT G l0 y bytes maxL (some .boolean) f0 n0 (.ref (gad G o) :: As) Th (QZ G q)) (mv : MV y bytes maxL (some .boolean) n) (hw : Cond.methodLink own index y ∈ lw_g) (hr : f0 + 1 ≤ rm.frames ∧ 8 + (maxL + 11) + n0 ≤ rm.locals) (hn : As.length = n) (hst : st0 = As.reverse ++ .ref (gad G o) :: st) (hW : (st.map fun v => v.category).sum ≤ 8) (hd : decode cc pc = .ok (.invokevirtual index, 3)) (k : ∀ z T, q z T → V G X T (pc + 3) lv (.int (zI (zi z)) :: st)) : V G X Th pc lv st0 := by
  have run := v_runV (lv := lv) C kx ho hM mv hw hr hn hst hW hd
  obtain ⟨p, l, e, R, s, m, args, below, meth, c, nc, ns, Q⟩ := X
  intro H locs ls h1 h2 h3 h4 h5
  refine va_calli (run H locs ls h1 h2 h3 h5) h4 (fun _ _ h => h) (fun _ h => h) (fun r T t H1 locs1 ht hvm hp hB hz hk hS => ?_)
  obtain ⟨b1, b2, b3, b4⟩ := hB
  rw [ht] at b2
  obtain ⟨z, rfl, hq⟩ := hp
  exact k z T hq H1 locs1 ls b1 b2 b4 hS h5

theorem v_cVL {G : GT} {X : CX} {Th : TH} {pc : Nat} {lv : List (Nat × Value)} {st st0 : List Value} {cc : ByteArray} {nL : Nat} {own : String} {f0 n0 : Nat} {rm : Room} {l0 : Launch} (C : CT G l0 X cc nL own rm) {y : MethodName} {bytes : ByteArray} {maxL : Nat} {n index : Nat} {As : List Value} {q : Int → TH → Prop} {o ci : Nat} {Tb : u_T} {N : Nat} {ty : Nat → FieldType} (kx : KX ci y.cls Tb N ty) (ho : clsO o = ci) (hM : MT G l0 y bytes maxL (some .long) f0 n0 (.ref (gad G o) :: As) Th (QL G q)) (mv : MV y bytes maxL (some .long) n) (hw : Cond.methodLink own index y ∈ lw_g) (hr : f0 + 1 ≤ rm.frames ∧ 8 + (maxL + 11) + n0 ≤ rm.locals) (hn : As.length = n) (hst : st0 = As.reverse ++ .ref (gad G o) :: st) (hW : (st.map fun v => v.category).sum ≤ 8) (hd : decode cc pc = .ok (.invokevirtual index, 3)) (k : ∀ z T, q z T → V G X T (pc + 3) lv (.long (zJ z) :: st)) : V G X Th pc lv st0 := by
  have run := v_runV (lv := lv) C kx ho hM mv hw hr hn hst hW hd
  obtain ⟨p, l, e, R, s, m, args, below, meth, c, nc, ns, Q⟩ := X
  intro H locs ls h1 h2 h3 h4 h5
  refine va_calll (run H locs ls h1 h2 h3 h5) h4 (fun _ _ h => h) (fun _ h => h) (fun r T t H1 locs1 ht hvm hp hB hz hk hS => ?_)
  obtain ⟨b1, b2, b3, b4⟩ := hB
  rw [ht] at b2
  obtain ⟨z, rfl, hq⟩ := hp
  exact k z T hq H1 locs1 ls b1 b2 b4 hS h5

theorem v_cVN {G : GT} {X : CX} {Th : TH} {pc : Nat} {lv : List (Nat × Value)} {st st0 : List Value} {cc : ByteArray} {nL : Nat} {own : String} {f0 n0 : Nat} {rm : Room} {l0 : Launch} (C : CT G l0 X cc nL own rm) {y : MethodName} {bytes : ByteArray} {maxL : Nat} {n index : Nat} {As : List Value} {q : TH → Prop} {o ci : Nat} {Tb : u_T} {N : Nat} {ty : Nat → FieldType} (kx : KX ci y.cls Tb N ty) (ho : clsO o = ci) (hM : MT G l0 y bytes maxL none f0 n0 (.ref (gad G o) :: As) Th (QV G q)) (mv : MV y bytes maxL none n) (hw : Cond.methodLink own index y ∈ lw_g) (hr : f0 + 1 ≤ rm.frames ∧ 8 + (maxL + 11) + n0 ≤ rm.locals) (hn : As.length = n) (hst : st0 = As.reverse ++ .ref (gad G o) :: st) (hW : (st.map fun v => v.category).sum ≤ 8) (hd : decode cc pc = .ok (.invokevirtual index, 3)) (k : ∀ T, q T → V G X T (pc + 3) lv (st)) : V G X Th pc lv st0 := by
  have run := v_runV (lv := lv) C kx ho hM mv hw hr hn hst hW hd
  obtain ⟨p, l, e, R, s, m, args, below, meth, c, nc, ns, Q⟩ := X
  intro H locs ls h1 h2 h3 h4 h5
  refine va_callv (run H locs ls h1 h2 h3 h5) h4 (fun _ _ h => h) (fun _ h => h) (fun T t H1 locs1 ht hvm hp hB hz hk hS => ?_)
  obtain ⟨b1, b2, b3, b4⟩ := hB
  rw [ht] at b2
  exact k T hp H1 locs1 ls b1 b2 b4 hS h5

theorem v_cSI {G : GT} {X : CX} {Th : TH} {pc : Nat} {lv : List (Nat × Value)} {st st0 : List Value} {cc : ByteArray} {nL : Nat} {own : String} {f0 n0 : Nat} {rm : Room} {l0 : Launch} (C : CT G l0 X cc nL own rm) {y : MethodName} {bytes : ByteArray} {maxL : Nat} {n index : Nat} {As : List Value} {q : Int → TH → Prop}  (hM : MT G l0 y bytes maxL (some .int) f0 n0 (As) Th (QI G q)) (mv : MS y bytes maxL (some .int) n) (hw : Cond.methodLink own index y ∈ lw_g) (hr : f0 + 1 ≤ rm.frames ∧ 8 + (maxL + 11) + n0 ≤ rm.locals) (hn : As.length = n) (hst : st0 = As.reverse ++ st) (hW : (st.map fun v => v.category).sum ≤ 8) (hd : decode cc pc = .ok (.invokestatic index, 3)) (k : ∀ z T, q z T → V G X T (pc + 3) lv (.int (zI z) :: st)) : V G X Th pc lv st0 := by
  have run := v_runS (lv := lv) C hM mv hw hr hn hst hW hd
  obtain ⟨p, l, e, R, s, m, args, below, meth, c, nc, ns, Q⟩ := X
  intro H locs ls h1 h2 h3 h4 h5
  refine va_calli (run H locs ls h1 h2 h3 h5) h4 (fun _ _ h => h) (fun _ h => h) (fun r T t H1 locs1 ht hvm hp hB hz hk hS => ?_)
  obtain ⟨b1, b2, b3, b4⟩ := hB
  rw [ht] at b2
  obtain ⟨z, rfl, hq⟩ := hp
  exact k z T hq H1 locs1 ls b1 b2 b4 hS h5

theorem v_cSZ {G : GT} {X : CX} {Th : TH} {pc : Nat} {lv : List (Nat × Value)} {st st0 : List Value} {cc : ByteArray} {nL : Nat} {own : String} {f0 n0 : Nat} {rm : Room} {l0 : Launch} (C : CT G l0 X cc nL own rm) {y : MethodName} {bytes : ByteArray} {maxL : Nat} {n index : Nat} {As : List Value} {q : Bool → TH → Prop}  (hM : MT G l0 y bytes maxL (some .boolean) f0 n0 (As) Th (QZ G q)) (mv : MS y bytes maxL (some .boolean) n) (hw : Cond.methodLink own index y ∈ lw_g) (hr : f0 + 1 ≤ rm.frames ∧ 8 + (maxL + 11) + n0 ≤ rm.locals) (hn : As.length = n) (hst : st0 = As.reverse ++ st) (hW : (st.map fun v => v.category).sum ≤ 8) (hd : decode cc pc = .ok (.invokestatic index, 3)) (k : ∀ z T, q z T → V G X T (pc + 3) lv (.int (zI (zi z)) :: st)) : V G X Th pc lv st0 := by
  have run := v_runS (lv := lv) C hM mv hw hr hn hst hW hd
  obtain ⟨p, l, e, R, s, m, args, below, meth, c, nc, ns, Q⟩ := X
  intro H locs ls h1 h2 h3 h4 h5
  refine va_calli (run H locs ls h1 h2 h3 h5) h4 (fun _ _ h => h) (fun _ h => h) (fun r T t H1 locs1 ht hvm hp hB hz hk hS => ?_)
  obtain ⟨b1, b2, b3, b4⟩ := hB
  rw [ht] at b2
  obtain ⟨z, rfl, hq⟩ := hp
  exact k z T hq H1 locs1 ls b1 b2 b4 hS h5

theorem v_cSL {G : GT} {X : CX} {Th : TH} {pc : Nat} {lv : List (Nat × Value)} {st st0 : List Value} {cc : ByteArray} {nL : Nat} {own : String} {f0 n0 : Nat} {rm : Room} {l0 : Launch} (C : CT G l0 X cc nL own rm) {y : MethodName} {bytes : ByteArray} {maxL : Nat} {n index : Nat} {As : List Value} {q : Int → TH → Prop}  (hM : MT G l0 y bytes maxL (some .long) f0 n0 (As) Th (QL G q)) (mv : MS y bytes maxL (some .long) n) (hw : Cond.methodLink own index y ∈ lw_g) (hr : f0 + 1 ≤ rm.frames ∧ 8 + (maxL + 11) + n0 ≤ rm.locals) (hn : As.length = n) (hst : st0 = As.reverse ++ st) (hW : (st.map fun v => v.category).sum ≤ 8) (hd : decode cc pc = .ok (.invokestatic index, 3)) (k : ∀ z T, q z T → V G X T (pc + 3) lv (.long (zJ z) :: st)) : V G X Th pc lv st0 := by
  have run := v_runS (lv := lv) C hM mv hw hr hn hst hW hd
  obtain ⟨p, l, e, R, s, m, args, below, meth, c, nc, ns, Q⟩ := X
  intro H locs ls h1 h2 h3 h4 h5
  refine va_calll (run H locs ls h1 h2 h3 h5) h4 (fun _ _ h => h) (fun _ h => h) (fun r T t H1 locs1 ht hvm hp hB hz hk hS => ?_)
  obtain ⟨b1, b2, b3, b4⟩ := hB
  rw [ht] at b2
  obtain ⟨z, rfl, hq⟩ := hp
  exact k z T hq H1 locs1 ls b1 b2 b4 hS h5

theorem v_cSN {G : GT} {X : CX} {Th : TH} {pc : Nat} {lv : List (Nat × Value)} {st st0 : List Value} {cc : ByteArray} {nL : Nat} {own : String} {f0 n0 : Nat} {rm : Room} {l0 : Launch} (C : CT G l0 X cc nL own rm) {y : MethodName} {bytes : ByteArray} {maxL : Nat} {n index : Nat} {As : List Value} {q : TH → Prop}  (hM : MT G l0 y bytes maxL none f0 n0 (As) Th (QV G q)) (mv : MS y bytes maxL none n) (hw : Cond.methodLink own index y ∈ lw_g) (hr : f0 + 1 ≤ rm.frames ∧ 8 + (maxL + 11) + n0 ≤ rm.locals) (hn : As.length = n) (hst : st0 = As.reverse ++ st) (hW : (st.map fun v => v.category).sum ≤ 8) (hd : decode cc pc = .ok (.invokestatic index, 3)) (k : ∀ T, q T → V G X T (pc + 3) lv (st)) : V G X Th pc lv st0 := by
  have run := v_runS (lv := lv) C hM mv hw hr hn hst hW hd
  obtain ⟨p, l, e, R, s, m, args, below, meth, c, nc, ns, Q⟩ := X
  intro H locs ls h1 h2 h3 h4 h5
  refine va_callv (run H locs ls h1 h2 h3 h5) h4 (fun _ _ h => h) (fun _ h => h) (fun T t H1 locs1 ht hvm hp hB hz hk hS => ?_)
  obtain ⟨b1, b2, b3, b4⟩ := hB
  rw [ht] at b2
  exact k T hp H1 locs1 ls b1 b2 b4 hS h5

def cpy (T : TH) (o1 j1 : Nat) (sp : Int) (o2 j2 : Nat) (dp n : Int) : TH := fun o j i => if o = o2 ∧ j = j2 ∧ dp ≤ i ∧ i < dp + n then T o1 j1 (sp + (i - dp)) else T o j i
theorem v_acopy {G : GT} {X : CX} {Th : TH} {pc : Nat} {lv : List (Nat × Value)} {st : List Value} {cc : ByteArray} {nL : Nat} {own : String} {rm : Room} {l0 : Launch} (C : CT G l0 X cc nL own rm) {o1 j1 n1 o2 j2 n2 index : Nat} {sp dp n : Int} (ha1 : arT (clsO o1) j1 = some (0, n1)) (ha2 : arT (clsO o2) j2 = some (0, n2)) (hw : Cond.methodLink own index arraycopyName ∈ lw_g) (w1 : Cond.native arraycopyName ∈ lw_g) (w2 : Cond.static arraycopyName ∈ lw_g) (w3 : Cond.initialized "java/lang/System" ∈ lw_g) (hfr : 1 ≤ rm.frames) (hlo : (st.map fun v => v.category).sum + (nativeFrameWords "java/lang/System" "arraycopy" 5 + 11) ≤ rm.locals) (hd : decode cc pc = .ok (.invokestatic index, 3))
    (h : 0 ≤ sp ∧ 0 ≤ dp ∧ 0 ≤ n ∧ sp + n ≤ n1 ∧ dp + n ≤ n2) (k : V G X (cpy Th o1 j1 sp o2 j2 dp n) (pc + 3) lv st) : V G X Th pc lv (.int (zI n) :: .int (zI dp) :: .ref (gaa G o2 j2) :: .int (zI sp) :: .ref (gaa G o1 j1) :: st) := by
  obtain ⟨p, l, e, R, s, m, args, below, meth, c, nc, ns, Q⟩ := X
  obtain ⟨hx, hb, hml, hown, hts, hK, hR, hcc, hss, -⟩ := C
  intro H locs ls h1 h2 h3 h4 h5
  subst hR
  obtain ⟨e1, e2, e3, e4, e5⟩ := h
  have l1 := ar_lt ha1
  have l2 := ar_lt ha2
  obtain ⟨q1, hq1, hc1'⟩ := ar_at ha1
  obtain ⟨q2, hq2, hc2'⟩ := ar_at ha2
  have hc1 := ws_at G Th hc1'
  have hc2 := ws_at G Th hc2'
  rw [cel_ar G Th ha1] at hc1
  rw [cel_ar G Th ha2] at hc2
  dsimp only at l1 l2
  have cl : ∀ z : Int, 0 ≤ z → z ≤ 2147483647 → ¬ zI z < 0 ∧ (zI z).toNatClampNeg = z.toNat := fun z a b => by
    have hr : (zI z).toInt = z := zI_toInt ⟨by omega, by omega⟩
    refine ⟨fun q => ?_, ?_⟩
    · have := Int32.lt_iff_toInt_lt.mp q
      rw [hr] at this
      have : z < 0 := this
      omega
    · show (zI z).toInt.toNat = z.toNat
      rw [hr]
  obtain ⟨c1, d1⟩ := cl sp e1 (by omega)
  obtain ⟨c2, d2⟩ := cl dp e2 (by omega)
  obtain ⟨c3, d3⟩ := cl n e3 (by omega)
  refine va_copyi hx hb h5.1.symm hown (hts _ hw) (hts _ w1) (hts _ w2) (hts _ w3) hK h2 h3 h4 q1 q2 0 0 hc1 hc2 (ty := .int) rfl rfl rfl c1 c2 c3 (by rw [d1, d3]; show _ ≤ n1; omega) (by rw [d2, d3]; show _ ≤ n2; omega) (fun _ _ => rfl) hfr hlo hd (fun H1 locs1 hP hD hS => ?_)
  rw [d1, d2, d3] at hP hD
  have he : (Sum.inl (gcA G 0, n2, .inl (va_cpy (fun x => zI (Th o1 j1 x)) (fun x => zI (Th o2 j2 x)) sp.toNat dp.toNat n.toNat)) : va_E) = arC G (cpy Th o1 j1 sp o2 j2 dp n) o2 j2 (0, n2) := by
    show _ = Sum.inl _
    refine congrArg (fun f => (Sum.inl (gcA G 0, n2, .inl f) : va_E)) (funext fun x => ?_)
    unfold va_cpy cpy
    by_cases hx9 : dp.toNat ≤ x ∧ x < dp.toNat + n.toNat
    · rw [if_pos hx9, if_pos ⟨rfl, rfl, by omega, by omega⟩]
      have : ((sp.toNat + (x - dp.toNat) : Nat) : Int) = sp + ((x : Int) - dp) := by omega
      rw [← this]
    · rw [if_neg hx9, if_neg (fun z => hx9 (by omega))]
  rw [he] at hP hD
  rw [ws_putA G Th (cpy Th o1 j1 sp o2 j2 dp n) hq2 hc2' ha2 (fun o' j' i' hn' => if_neg (fun z => hn' ⟨z.1, z.2.1⟩))] at hP hD
  refine k H1 locs1 ls ?_ hP hD hS h5
  have hkd : (kdT (clsO o2))[j2]? = some 1 := (arL_kd _ (arT_mem ha2)).1
  have nn : ∀ j, (j = 1 ∨ j = 2) → ¬ (0 = o2 ∧ j = j2) := fun j hj z => by
    obtain ⟨rfl, rfl⟩ := z
    rcases hj with rfl | rfl
    · exact absurd hkd (by decide)
    · exact absurd hkd (by decide)
  show ((cpy Th o1 j1 sp o2 j2 dp n) 0 1 0 = 2 ∨ (cpy Th o1 j1 sp o2 j2 dp n) 0 1 0 = 3) ∧ ((cpy Th o1 j1 sp o2 j2 dp n) 0 2 0 = 2 ∨ (cpy Th o1 j1 sp o2 j2 dp n) 0 2 0 = 3)
  have f1 : (cpy Th o1 j1 sp o2 j2 dp n) 0 1 0 = Th 0 1 0 := if_neg (fun z => nn 1 (Or.inl rfl) ⟨z.1, z.2.1⟩)
  have f2 : (cpy Th o1 j1 sp o2 j2 dp n) 0 2 0 = Th 0 2 0 := if_neg (fun z => nn 2 (Or.inr rfl) ⟨z.1, z.2.1⟩)
  rw [f1, f2]
  exact h1

theorem ws_putL1 (G : GT) (Th : TH) {k o : Nat} (hk : k < 70) (h : wsT[k]? = some (0, 0)) : (wsG G Th).set k (gad G 0, .inr (8, (flds G Th 0).set 1 (.ref (gad G o)))) = wsG G (up Th 0 1 0 (o : Int)) := by
  refine ws_set G Th _ hk h ?_ ?_
  · show (gad G 0, Sum.inr (8, flds G (up Th 0 1 0 (o : Int)) 0)) = _
    have he : flds G (up Th 0 1 0 (o : Int)) 0 = (flds G Th 0).set 1 (.ref (gad G o)) := by
      simp [flds, kdT, clsO, fldV, up, List.mapIdx_cons]
    rw [he]
  · intro q' hq' hne
    obtain ⟨o', x⟩ := q'
    cases x with
    | zero =>
      show (gad G o', Sum.inr (clsO o', flds G _ o')) = (gad G o', Sum.inr (clsO o', flds G _ o'))
      rw [flds_same G (fun j' k' _ _ => up_ne (fun z => hne (by rw [z.1])))]
    | succ j' =>
      have h1 := (wsT_kd _ hq').resolve_left (by simp)
      show (gaa G o' j', arC G _ o' j' _) = (gaa G o' j', arC G _ o' j' _)
      rw [arC_same G _ (fun i => up_ne (fun z => by
        obtain ⟨rfl, rfl, -⟩ := z
        exact absurd h1 (by decide)))]
theorem v_putL1 {G : GT} {X : CX} {Th : TH} {pc : Nat} {lv : List (Nat × Value)} {st : List Value} {cc : ByteArray} {nL : Nat} {own : String} {rm : Room} {l0 : Launch} (C : CT G l0 X cc nL own rm) {o index : Nat} (ho : clsO o = 3) (hw : Cond.fieldLink own index RX8 (TX8 1).2.1 (TX8 1).2.2.1 ∈ lw_g) (hd : decode cc pc = .ok (.putfield index, 3)) (k : V G X (up Th 0 1 0 (o : Int)) (pc + 3) lv st) : V G X Th pc lv (.ref (gad G o) :: .ref (gad G 0) :: st) := by
  obtain ⟨p, l, e, R, s, m, args, below, meth, c, nc, ns, Q⟩ := X
  obtain ⟨hx, hb, hml, hown, hts, hK, hR, hcc, hss, -⟩ := C
  intro H locs ls h1 h2 h3 h4 h5
  obtain ⟨q, hq70, hq⟩ := wsT_obj 0 (by decide)
  have ho2 : o = 2 ∨ o = 3 := (by decide : ∀ o, o < 14 → clsO o = 3 → o = 2 ∨ o = 3) o (clsO_lt ho (by decide)) ho
  refine va_put hx hb hts i_X8 tyX8 tyX8_ok nmX8 hown hK h2 h3 h4 q (ws_at G Th hq) (ci := 8) rfl 1 (by decide) (hts _ hw) (fun x h => h) rfl (ty := .object "KnownWeight$Land") (tyX8_ok 1 (by decide)) rfl rfl (by unfold flds; rw [List.length_mapIdx]; decide) hd (fun H1 locs1 hP hD hS => ?_)
  have e9 := ws_putL1 G Th (o := o) hq70 hq
  have hP : va_P (gD G) vwCl ((wsG G Th).set q (gad G 0, .inr (8, (flds G Th 0).set 1 (.ref (gad G o))))) H1 := hP
  have hD : va_D (gA G) ((wsG G Th).set q (gad G 0, .inr (8, (flds G Th 0).set 1 (.ref (gad G o))))) := hD
  rw [e9] at hP hD
  refine k H1 locs1 ls ?_ hP hD hS h5
  unfold lOK
  rw [up_eq, up_ne (by decide)]
  exact ⟨by omega, h1.2⟩

theorem ws_putL2 (G : GT) (Th : TH) {k o : Nat} (hk : k < 70) (h : wsT[k]? = some (0, 0)) : (wsG G Th).set k (gad G 0, .inr (8, (flds G Th 0).set 2 (.ref (gad G o)))) = wsG G (up Th 0 2 0 (o : Int)) := by
  refine ws_set G Th _ hk h ?_ ?_
  · show (gad G 0, Sum.inr (8, flds G (up Th 0 2 0 (o : Int)) 0)) = _
    have he : flds G (up Th 0 2 0 (o : Int)) 0 = (flds G Th 0).set 2 (.ref (gad G o)) := by
      simp [flds, kdT, clsO, fldV, up, List.mapIdx_cons]
    rw [he]
  · intro q' hq' hne
    obtain ⟨o', x⟩ := q'
    cases x with
    | zero =>
      show (gad G o', Sum.inr (clsO o', flds G _ o')) = (gad G o', Sum.inr (clsO o', flds G _ o'))
      rw [flds_same G (fun j' k' _ _ => up_ne (fun z => hne (by rw [z.1])))]
    | succ j' =>
      have h1 := (wsT_kd _ hq').resolve_left (by simp)
      show (gaa G o' j', arC G _ o' j' _) = (gaa G o' j', arC G _ o' j' _)
      rw [arC_same G _ (fun i => up_ne (fun z => by
        obtain ⟨rfl, rfl, -⟩ := z
        exact absurd h1 (by decide)))]
theorem v_putL2 {G : GT} {X : CX} {Th : TH} {pc : Nat} {lv : List (Nat × Value)} {st : List Value} {cc : ByteArray} {nL : Nat} {own : String} {rm : Room} {l0 : Launch} (C : CT G l0 X cc nL own rm) {o index : Nat} (ho : clsO o = 3) (hw : Cond.fieldLink own index RX8 (TX8 2).2.1 (TX8 2).2.2.1 ∈ lw_g) (hd : decode cc pc = .ok (.putfield index, 3)) (k : V G X (up Th 0 2 0 (o : Int)) (pc + 3) lv st) : V G X Th pc lv (.ref (gad G o) :: .ref (gad G 0) :: st) := by
  obtain ⟨p, l, e, R, s, m, args, below, meth, c, nc, ns, Q⟩ := X
  obtain ⟨hx, hb, hml, hown, hts, hK, hR, hcc, hss, -⟩ := C
  intro H locs ls h1 h2 h3 h4 h5
  obtain ⟨q, hq70, hq⟩ := wsT_obj 0 (by decide)
  have ho2 : o = 2 ∨ o = 3 := (by decide : ∀ o, o < 14 → clsO o = 3 → o = 2 ∨ o = 3) o (clsO_lt ho (by decide)) ho
  refine va_put hx hb hts i_X8 tyX8 tyX8_ok nmX8 hown hK h2 h3 h4 q (ws_at G Th hq) (ci := 8) rfl 2 (by decide) (hts _ hw) (fun x h => h) rfl (ty := .object "KnownWeight$Land") (tyX8_ok 2 (by decide)) rfl rfl (by unfold flds; rw [List.length_mapIdx]; decide) hd (fun H1 locs1 hP hD hS => ?_)
  have e9 := ws_putL2 G Th (o := o) hq70 hq
  have hP : va_P (gD G) vwCl ((wsG G Th).set q (gad G 0, .inr (8, (flds G Th 0).set 2 (.ref (gad G o))))) H1 := hP
  have hD : va_D (gA G) ((wsG G Th).set q (gad G 0, .inr (8, (flds G Th 0).set 2 (.ref (gad G o))))) := hD
  rw [e9] at hP hD
  refine k H1 locs1 ls ?_ hP hD hS h5
  unfold lOK
  rw [up_ne (by decide), up_eq]
  exact ⟨h1.1, by omega⟩
