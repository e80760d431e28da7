def lw_g : List Cond := lw_tbl.filter goodWord
abbrev CX : Type := Program × Launch × Env × Room × State × MethodId × Array Value × List Frame × Method × Code × Nat × Nat × (State → Prop)
def V (G : GT) (X : CX) (Th : TH) (pc : Nat) (lv : List (Nat × Value)) (st : List Value) : Prop := match X with
  | (p, l, e, R, s, m, args, below, meth, c, nc, ns, Q) => ∀ (H : Heap) (locs : List Loc) (ls : Array Slot), lOK Th → va_P (gD G) vwCl (wsG G Th) H → va_D (gA G) (wsG G Th) → va_S (gA G) s.heap H locs → lv_has ls c.maxLocals lv → W p l e R s m args below meth c H locs nc ns Q (F0 m pc ls st)
def CT (G : GT) (l0 : Launch) (X : CX) (cc : ByteArray) (nL : Nat) (own : String) (rm : Room) : Prop := match X with
  | (p, l, _, R, s, m, args, _, _, c, nc, ns, _) => p.tables.exec = Jvm.exec ∧ c.code = cc ∧ c.maxLocals = nL ∧ s.vm.findClass own = some m.cls ∧ (∀ w ∈ lw_g, w.before args s = true) ∧ va_K (gD G) vwCl (tysG G) s ∧ R = rm ∧ nc ≤ R.cells ∧ ns ≤ R.slots ∧ l = l0
theorem mg {w : Cond} (h : w ∈ lw_tbl) (hg : goodWord w = true) : w ∈ lw_g := List.mem_filter.mpr ⟨h, hg⟩
theorem lw_g_sub {w : Cond} (h : w ∈ lw_g) : w ∈ lw_tbl := (List.mem_filter.mp h).1
theorem tbl_goodIn {w : Cond} {ws : List Cond} (hw : w ∈ lw_g) (h : ∀ x ∈ ws, x ∈ lw_g) : GoodIn lw_g (ws ++ (w :: lw_g)) := by
  intro x hx
  have hm : x ∈ lw_g := by
    rcases List.mem_append.mp hx with h1 | h1
    · exact h x h1
    · rcases List.mem_cons.mp h1 with rfl | h1
      · exact hw
      · exact h1
  exact ⟨hm, good_of_word (List.mem_filter.mp hm).2⟩

theorem v_iconst {G : GT} {X : CX} {Th : TH} {pc : Nat} {lv : List (Nat × Value)} {st : List Value} {cc : ByteArray} {nL : Nat} {own : String} {rm : Room} {l0 : Launch} (C : CT G l0 X cc nL own rm) {n : Int} (hd : decode cc pc = .ok (.iconst n, 1)) (k : V G X Th (pc + 1) lv (.int (zI n) :: st)) : V G X Th (pc) lv (st) := by
  obtain ⟨p, l, e, R, s, m, args, below, meth, c, nc, ns, Q⟩ := X
  obtain ⟨hx, hb, hml, hown, hts, hK, hR, hcc, hss, -⟩ := C
  intro H locs ls h1 h2 h3 h4 h5
  exact lv_iconst hx hb hd rfl (k H locs ls h1 h2 h3 h4 h5)

theorem v_bipush {G : GT} {X : CX} {Th : TH} {pc : Nat} {lv : List (Nat × Value)} {st : List Value} {cc : ByteArray} {nL : Nat} {own : String} {rm : Room} {l0 : Launch} (C : CT G l0 X cc nL own rm) {n : Int} (hd : decode cc pc = .ok (.bipush n, 2)) (hv : (Int8.ofInt n).toInt32 = zI n) (k : V G X Th (pc + 2) lv (.int (zI n) :: st)) : V G X Th (pc) lv (st) := by
  obtain ⟨p, l, e, R, s, m, args, below, meth, c, nc, ns, Q⟩ := X
  obtain ⟨hx, hb, hml, hown, hts, hK, hR, hcc, hss, -⟩ := C
  intro H locs ls h1 h2 h3 h4 h5
  exact lv_bipush hx hb hd hv (k H locs ls h1 h2 h3 h4 h5)

theorem v_sipush {G : GT} {X : CX} {Th : TH} {pc : Nat} {lv : List (Nat × Value)} {st : List Value} {cc : ByteArray} {nL : Nat} {own : String} {rm : Room} {l0 : Launch} (C : CT G l0 X cc nL own rm) {n : Int} (hd : decode cc pc = .ok (.sipush n, 3)) (hv : (Int16.ofInt n).toInt32 = zI n) (k : V G X Th (pc + 3) lv (.int (zI n) :: st)) : V G X Th (pc) lv (st) := by
  obtain ⟨p, l, e, R, s, m, args, below, meth, c, nc, ns, Q⟩ := X
  obtain ⟨hx, hb, hml, hown, hts, hK, hR, hcc, hss, -⟩ := C
  intro H locs ls h1 h2 h3 h4 h5
  exact lv_sipush hx hb hd hv (k H locs ls h1 h2 h3 h4 h5)

theorem v_ldc {G : GT} {X : CX} {Th : TH} {pc : Nat} {lv : List (Nat × Value)} {st : List Value} {cc : ByteArray} {nL : Nat} {own : String} {rm : Room} {l0 : Launch} (C : CT G l0 X cc nL own rm) {index : Nat} {v : Int32} {n : Int} (hd : decode cc pc = .ok (.ldc index, 2)) (hw : Cond.constant own index v ∈ lw_g) (hv : v = zI n) (k : V G X Th (pc + 2) lv (.int (zI n) :: st)) : V G X Th (pc) lv (st) := by
  obtain ⟨p, l, e, R, s, m, args, below, meth, c, nc, ns, Q⟩ := X
  obtain ⟨hx, hb, hml, hown, hts, hK, hR, hcc, hss, -⟩ := C
  intro H locs ls h1 h2 h3 h4 h5
  subst hv
  exact lv_ldc hx hb hown (hts _ hw) hd (k H locs ls h1 h2 h3 h4 h5)

theorem v_ldcw {G : GT} {X : CX} {Th : TH} {pc : Nat} {lv : List (Nat × Value)} {st : List Value} {cc : ByteArray} {nL : Nat} {own : String} {rm : Room} {l0 : Launch} (C : CT G l0 X cc nL own rm) {index : Nat} {v : Int32} {n : Int} (hd : decode cc pc = .ok (.ldc_w index, 3)) (hw : Cond.constant own index v ∈ lw_g) (hv : v = zI n) (k : V G X Th (pc + 3) lv (.int (zI n) :: st)) : V G X Th (pc) lv (st) := by
  obtain ⟨p, l, e, R, s, m, args, below, meth, c, nc, ns, Q⟩ := X
  obtain ⟨hx, hb, hml, hown, hts, hK, hR, hcc, hss, -⟩ := C
  intro H locs ls h1 h2 h3 h4 h5
  subst hv
  exact lv_ldcw hx hb hown (hts _ hw) hd (k H locs ls h1 h2 h3 h4 h5)

theorem v_ldc2 {G : GT} {X : CX} {Th : TH} {pc : Nat} {lv : List (Nat × Value)} {st : List Value} {cc : ByteArray} {nL : Nat} {own : String} {rm : Room} {l0 : Launch} (C : CT G l0 X cc nL own rm) {index : Nat} {v : Int64} {n : Int} (hd : decode cc pc = .ok (.ldc2_w index, 3)) (hw : Cond.constantLong own index v ∈ lw_g) (hv : v = zJ n) (k : V G X Th (pc + 3) lv (.long (zJ n) :: st)) : V G X Th (pc) lv (st) := by
  obtain ⟨p, l, e, R, s, m, args, below, meth, c, nc, ns, Q⟩ := X
  obtain ⟨hx, hb, hml, hown, hts, hK, hR, hcc, hss, -⟩ := C
  intro H locs ls h1 h2 h3 h4 h5
  subst hv
  exact lv_ldc2 hx hb hown (hts _ hw) hd (k H locs ls h1 h2 h3 h4 h5)

theorem v_lconst {G : GT} {X : CX} {Th : TH} {pc : Nat} {lv : List (Nat × Value)} {st : List Value} {cc : ByteArray} {nL : Nat} {own : String} {rm : Room} {l0 : Launch} (C : CT G l0 X cc nL own rm) {f : Fin 2} {n : Int} (hd : decode cc pc = .ok (.lconst f, 1)) (hv : Int64.ofNat (f : Nat) = zJ n) (k : V G X Th (pc + 1) lv (.long (zJ n) :: st)) : V G X Th (pc) lv (st) := by
  obtain ⟨p, l, e, R, s, m, args, below, meth, c, nc, ns, Q⟩ := X
  obtain ⟨hx, hb, hml, hown, hts, hK, hR, hcc, hss, -⟩ := C
  intro H locs ls h1 h2 h3 h4 h5
  exact lv_lconst hx hb hd hv (k H locs ls h1 h2 h3 h4 h5)

theorem v_iload_n {G : GT} {X : CX} {Th : TH} {pc : Nat} {lv : List (Nat × Value)} {st : List Value} {cc : ByteArray} {nL : Nat} {own : String} {rm : Room} {l0 : Launch} (C : CT G l0 X cc nL own rm) (j : Nat) {i : Fin 4} {x : Int} (hd : decode cc pc = .ok (.iload_n i, 1)) (hj : lv[j]? = some ((i : Nat), .int (zI x))) (k : V G X Th (pc + 1) lv (.int (zI x) :: st)) : V G X Th (pc) lv (st) := by
  obtain ⟨p, l, e, R, s, m, args, below, meth, c, nc, ns, Q⟩ := X
  obtain ⟨hx, hb, hml, hown, hts, hK, hR, hcc, hss, -⟩ := C
  intro H locs ls h1 h2 h3 h4 h5
  exact lv_iload_n hx hb hd rfl (lv_at h5 j hj) (k H locs ls h1 h2 h3 h4 h5)

theorem v_iload {G : GT} {X : CX} {Th : TH} {pc : Nat} {lv : List (Nat × Value)} {st : List Value} {cc : ByteArray} {nL : Nat} {own : String} {rm : Room} {l0 : Launch} (C : CT G l0 X cc nL own rm) (j : Nat) {i : Nat} {x : Int} (hd : decode cc pc = .ok (.iload i, 2)) (hj : lv[j]? = some (i, .int (zI x))) (k : V G X Th (pc + 2) lv (.int (zI x) :: st)) : V G X Th (pc) lv (st) := by
  obtain ⟨p, l, e, R, s, m, args, below, meth, c, nc, ns, Q⟩ := X
  obtain ⟨hx, hb, hml, hown, hts, hK, hR, hcc, hss, -⟩ := C
  intro H locs ls h1 h2 h3 h4 h5
  exact lv_iload hx hb hd (lv_at h5 j hj) (k H locs ls h1 h2 h3 h4 h5)

theorem v_istore_n {G : GT} {X : CX} {Th : TH} {pc : Nat} {lv : List (Nat × Value)} {st : List Value} {cc : ByteArray} {nL : Nat} {own : String} {rm : Room} {l0 : Launch} (C : CT G l0 X cc nL own rm) {f : Fin 4} {i : Nat} {x : Int} (hd : decode cc pc = .ok (.istore_n f, 1)) (hf : (f : Nat) = i) (hi : i < nL) (k : V G X Th (pc + 1) ((i, Value.int (zI x)) :: lv.filter (fun q => !(q.1 == i) && !(q.1 + 1 == i && q.2.category == 2))) st) : V G X Th (pc) lv (.int (zI x) :: st) := by
  obtain ⟨p, l, e, R, s, m, args, below, meth, c, nc, ns, Q⟩ := X
  obtain ⟨hx, hb, hml, hown, hts, hK, hR, hcc, hss, -⟩ := C
  intro H locs ls h1 h2 h3 h4 h5
  subst hml
  exact lv_istore_n hx hb hd hf h5 hi rfl (fun ls hl => k H locs ls h1 h2 h3 h4 hl)

theorem v_istore {G : GT} {X : CX} {Th : TH} {pc : Nat} {lv : List (Nat × Value)} {st : List Value} {cc : ByteArray} {nL : Nat} {own : String} {rm : Room} {l0 : Launch} (C : CT G l0 X cc nL own rm) {i : Nat} {x : Int} (hd : decode cc pc = .ok (.istore i, 2)) (hi : i < nL) (k : V G X Th (pc + 2) ((i, Value.int (zI x)) :: lv.filter (fun q => !(q.1 == i) && !(q.1 + 1 == i && q.2.category == 2))) st) : V G X Th (pc) lv (.int (zI x) :: st) := by
  obtain ⟨p, l, e, R, s, m, args, below, meth, c, nc, ns, Q⟩ := X
  obtain ⟨hx, hb, hml, hown, hts, hK, hR, hcc, hss, -⟩ := C
  intro H locs ls h1 h2 h3 h4 h5
  subst hml
  exact lv_istore hx hb hd h5 hi rfl (fun ls hl => k H locs ls h1 h2 h3 h4 hl)

theorem v_lload_n {G : GT} {X : CX} {Th : TH} {pc : Nat} {lv : List (Nat × Value)} {st : List Value} {cc : ByteArray} {nL : Nat} {own : String} {rm : Room} {l0 : Launch} (C : CT G l0 X cc nL own rm) (j : Nat) {i : Fin 4} {x : Int} (hd : decode cc pc = .ok (.lload_n i, 1)) (hj : lv[j]? = some ((i : Nat), .long (zJ x))) (k : V G X Th (pc + 1) lv (.long (zJ x) :: st)) : V G X Th (pc) lv (st) := by
  obtain ⟨p, l, e, R, s, m, args, below, meth, c, nc, ns, Q⟩ := X
  obtain ⟨hx, hb, hml, hown, hts, hK, hR, hcc, hss, -⟩ := C
  intro H locs ls h1 h2 h3 h4 h5
  exact lv_lload_n hx hb hd rfl (lv_at h5 j hj) (k H locs ls h1 h2 h3 h4 h5)

theorem v_lload {G : GT} {X : CX} {Th : TH} {pc : Nat} {lv : List (Nat × Value)} {st : List Value} {cc : ByteArray} {nL : Nat} {own : String} {rm : Room} {l0 : Launch} (C : CT G l0 X cc nL own rm) (j : Nat) {i : Nat} {x : Int} (hd : decode cc pc = .ok (.lload i, 2)) (hj : lv[j]? = some (i, .long (zJ x))) (k : V G X Th (pc + 2) lv (.long (zJ x) :: st)) : V G X Th (pc) lv (st) := by
  obtain ⟨p, l, e, R, s, m, args, below, meth, c, nc, ns, Q⟩ := X
  obtain ⟨hx, hb, hml, hown, hts, hK, hR, hcc, hss, -⟩ := C
  intro H locs ls h1 h2 h3 h4 h5
  exact lv_lload hx hb hd (lv_at h5 j hj) (k H locs ls h1 h2 h3 h4 h5)

theorem v_lstore_n {G : GT} {X : CX} {Th : TH} {pc : Nat} {lv : List (Nat × Value)} {st : List Value} {cc : ByteArray} {nL : Nat} {own : String} {rm : Room} {l0 : Launch} (C : CT G l0 X cc nL own rm) {f : Fin 4} {i : Nat} {x : Int} (hd : decode cc pc = .ok (.lstore_n f, 1)) (hf : (f : Nat) = i) (hi : i + 1 < nL) (k : V G X Th (pc + 1) ((i, Value.long (zJ x)) :: lv.filter (fun q => !(q.1 == i) && (!(q.1 == i + 1) && !(q.1 + 1 == i && q.2.category == 2)))) st) : V G X Th (pc) lv (.long (zJ x) :: st) := by
  obtain ⟨p, l, e, R, s, m, args, below, meth, c, nc, ns, Q⟩ := X
  obtain ⟨hx, hb, hml, hown, hts, hK, hR, hcc, hss, -⟩ := C
  intro H locs ls h1 h2 h3 h4 h5
  subst hml
  exact lv_lstore_n hx hb hd hf h5 hi rfl (fun ls hl => k H locs ls h1 h2 h3 h4 hl)

theorem v_lstore {G : GT} {X : CX} {Th : TH} {pc : Nat} {lv : List (Nat × Value)} {st : List Value} {cc : ByteArray} {nL : Nat} {own : String} {rm : Room} {l0 : Launch} (C : CT G l0 X cc nL own rm) {i : Nat} {x : Int} (hd : decode cc pc = .ok (.lstore i, 2)) (hi : i + 1 < nL) (k : V G X Th (pc + 2) ((i, Value.long (zJ x)) :: lv.filter (fun q => !(q.1 == i) && (!(q.1 == i + 1) && !(q.1 + 1 == i && q.2.category == 2)))) st) : V G X Th (pc) lv (.long (zJ x) :: st) := by
  obtain ⟨p, l, e, R, s, m, args, below, meth, c, nc, ns, Q⟩ := X
  obtain ⟨hx, hb, hml, hown, hts, hK, hR, hcc, hss, -⟩ := C
  intro H locs ls h1 h2 h3 h4 h5
  subst hml
  exact lv_lstore hx hb hd h5 hi rfl (fun ls hl => k H locs ls h1 h2 h3 h4 hl)

theorem v_aload_n {G : GT} {X : CX} {Th : TH} {pc : Nat} {lv : List (Nat × Value)} {st : List Value} {cc : ByteArray} {nL : Nat} {own : String} {rm : Room} {l0 : Launch} (C : CT G l0 X cc nL own rm) (j : Nat) {i : Fin 4} {x : Nat} (hd : decode cc pc = .ok (.aload_n i, 1)) (hj : lv[j]? = some ((i : Nat), .ref x)) (k : V G X Th (pc + 1) lv (.ref x :: st)) : V G X Th (pc) lv (st) := by
  obtain ⟨p, l, e, R, s, m, args, below, meth, c, nc, ns, Q⟩ := X
  obtain ⟨hx, hb, hml, hown, hts, hK, hR, hcc, hss, -⟩ := C
  intro H locs ls h1 h2 h3 h4 h5
  exact lv_aload_n hx hb hd rfl (lv_at h5 j hj) (k H locs ls h1 h2 h3 h4 h5)

theorem v_aload {G : GT} {X : CX} {Th : TH} {pc : Nat} {lv : List (Nat × Value)} {st : List Value} {cc : ByteArray} {nL : Nat} {own : String} {rm : Room} {l0 : Launch} (C : CT G l0 X cc nL own rm) (j : Nat) {i : Nat} {x : Nat} (hd : decode cc pc = .ok (.aload i, 2)) (hj : lv[j]? = some (i, .ref x)) (k : V G X Th (pc + 2) lv (.ref x :: st)) : V G X Th (pc) lv (st) := by
  obtain ⟨p, l, e, R, s, m, args, below, meth, c, nc, ns, Q⟩ := X
  obtain ⟨hx, hb, hml, hown, hts, hK, hR, hcc, hss, -⟩ := C
  intro H locs ls h1 h2 h3 h4 h5
  exact lv_aload hx hb hd (lv_at h5 j hj) (k H locs ls h1 h2 h3 h4 h5)

theorem v_astore_n {G : GT} {X : CX} {Th : TH} {pc : Nat} {lv : List (Nat × Value)} {st : List Value} {cc : ByteArray} {nL : Nat} {own : String} {rm : Room} {l0 : Launch} (C : CT G l0 X cc nL own rm) {f : Fin 4} {i : Nat} {x : Nat} (hd : decode cc pc = .ok (.astore_n f, 1)) (hf : (f : Nat) = i) (hi : i < nL) (k : V G X Th (pc + 1) ((i, Value.ref x) :: lv.filter (fun q => !(q.1 == i) && !(q.1 + 1 == i && q.2.category == 2))) st) : V G X Th (pc) lv (.ref x :: st) := by
  obtain ⟨p, l, e, R, s, m, args, below, meth, c, nc, ns, Q⟩ := X
  obtain ⟨hx, hb, hml, hown, hts, hK, hR, hcc, hss, -⟩ := C
  intro H locs ls h1 h2 h3 h4 h5
  subst hml
  exact lv_astore_n hx hb hd hf h5 hi rfl (fun ls hl => k H locs ls h1 h2 h3 h4 hl)

theorem v_astore {G : GT} {X : CX} {Th : TH} {pc : Nat} {lv : List (Nat × Value)} {st : List Value} {cc : ByteArray} {nL : Nat} {own : String} {rm : Room} {l0 : Launch} (C : CT G l0 X cc nL own rm) {i : Nat} {x : Nat} (hd : decode cc pc = .ok (.astore i, 2)) (hi : i < nL) (k : V G X Th (pc + 2) ((i, Value.ref x) :: lv.filter (fun q => !(q.1 == i) && !(q.1 + 1 == i && q.2.category == 2))) st) : V G X Th (pc) lv (.ref x :: st) := by
  obtain ⟨p, l, e, R, s, m, args, below, meth, c, nc, ns, Q⟩ := X
  obtain ⟨hx, hb, hml, hown, hts, hK, hR, hcc, hss, -⟩ := C
  intro H locs ls h1 h2 h3 h4 h5
  subst hml
  exact lv_astore hx hb hd h5 hi rfl (fun ls hl => k H locs ls h1 h2 h3 h4 hl)

theorem v_iinc {G : GT} {X : CX} {Th : TH} {pc : Nat} {lv : List (Nat × Value)} {st : List Value} {cc : ByteArray} {nL : Nat} {own : String} {rm : Room} {l0 : Launch} (C : CT G l0 X cc nL own rm) (j : Nat) {i : Nat} {n x : Int} (hd : decode cc pc = .ok (.iinc i n, 3)) (hj : lv[j]? = some (i, .int (zI x))) (hi : i < nL) (k : V G X Th (pc + 3) ((i, Value.int (zI (x + n))) :: lv.filter (fun q => !(q.1 == i) && !(q.1 + 1 == i && q.2.category == 2))) st) : V G X Th (pc) lv (st) := by
  obtain ⟨p, l, e, R, s, m, args, below, meth, c, nc, ns, Q⟩ := X
  obtain ⟨hx, hb, hml, hown, hts, hK, hR, hcc, hss, -⟩ := C
  intro H locs ls h1 h2 h3 h4 h5
  subst hml
  exact lv_iinc hx hb hd h5 hj (zI_add x n) hi rfl (fun ls hl => k H locs ls h1 h2 h3 h4 hl)

theorem v_iadd {G : GT} {X : CX} {Th : TH} {pc : Nat} {lv : List (Nat × Value)} {st : List Value} {cc : ByteArray} {nL : Nat} {own : String} {rm : Room} {l0 : Launch} (C : CT G l0 X cc nL own rm) {a b : Int} (hd : decode cc pc = .ok (.iadd, 1)) (k : V G X Th (pc + 1) lv (.int (zI (a + b)) :: st)) : V G X Th (pc) lv (.int (zI b) :: .int (zI a) :: st) := by
  obtain ⟨p, l, e, R, s, m, args, below, meth, c, nc, ns, Q⟩ := X
  obtain ⟨hx, hb, hml, hown, hts, hK, hR, hcc, hss, -⟩ := C
  intro H locs ls h1 h2 h3 h4 h5
  have k := (k H locs ls h1 h2 h3 h4 h5)
  rw [← zI_add a b] at k
  exact lv_iadd hx hb hd k

theorem v_isub {G : GT} {X : CX} {Th : TH} {pc : Nat} {lv : List (Nat × Value)} {st : List Value} {cc : ByteArray} {nL : Nat} {own : String} {rm : Room} {l0 : Launch} (C : CT G l0 X cc nL own rm) {a b : Int} (hd : decode cc pc = .ok (.isub, 1)) (k : V G X Th (pc + 1) lv (.int (zI (a - b)) :: st)) : V G X Th (pc) lv (.int (zI b) :: .int (zI a) :: st) := by
  obtain ⟨p, l, e, R, s, m, args, below, meth, c, nc, ns, Q⟩ := X
  obtain ⟨hx, hb, hml, hown, hts, hK, hR, hcc, hss, -⟩ := C
  intro H locs ls h1 h2 h3 h4 h5
  have k := (k H locs ls h1 h2 h3 h4 h5)
  rw [← zI_sub a b] at k
  exact lv_isub hx hb hd k

theorem v_imul {G : GT} {X : CX} {Th : TH} {pc : Nat} {lv : List (Nat × Value)} {st : List Value} {cc : ByteArray} {nL : Nat} {own : String} {rm : Room} {l0 : Launch} (C : CT G l0 X cc nL own rm) {a b : Int} (hd : decode cc pc = .ok (.imul, 1)) (k : V G X Th (pc + 1) lv (.int (zI (a * b)) :: st)) : V G X Th (pc) lv (.int (zI b) :: .int (zI a) :: st) := by
  obtain ⟨p, l, e, R, s, m, args, below, meth, c, nc, ns, Q⟩ := X
  obtain ⟨hx, hb, hml, hown, hts, hK, hR, hcc, hss, -⟩ := C
  intro H locs ls h1 h2 h3 h4 h5
  have k := (k H locs ls h1 h2 h3 h4 h5)
  rw [← zI_mul a b] at k
  exact lv_imul hx hb hd k

theorem v_ineg {G : GT} {X : CX} {Th : TH} {pc : Nat} {lv : List (Nat × Value)} {st : List Value} {cc : ByteArray} {nL : Nat} {own : String} {rm : Room} {l0 : Launch} (C : CT G l0 X cc nL own rm) {a : Int} (hd : decode cc pc = .ok (.ineg, 1)) (k : V G X Th (pc + 1) lv (.int (zI (-a)) :: st)) : V G X Th (pc) lv (.int (zI a) :: st) := by
  obtain ⟨p, l, e, R, s, m, args, below, meth, c, nc, ns, Q⟩ := X
  obtain ⟨hx, hb, hml, hown, hts, hK, hR, hcc, hss, -⟩ := C
  intro H locs ls h1 h2 h3 h4 h5
  have k := (k H locs ls h1 h2 h3 h4 h5)
  rw [← zI_neg a] at k
  exact lv_ineg hx hb hd k

theorem v_iand {G : GT} {X : CX} {Th : TH} {pc : Nat} {lv : List (Nat × Value)} {st : List Value} {cc : ByteArray} {nL : Nat} {own : String} {rm : Room} {l0 : Launch} (C : CT G l0 X cc nL own rm) {a b : Int} (hd : decode cc pc = .ok (.iand, 1)) (k : V G X Th (pc + 1) lv (.int (zI (zand a b)) :: st)) : V G X Th (pc) lv (.int (zI b) :: .int (zI a) :: st) := by
  obtain ⟨p, l, e, R, s, m, args, below, meth, c, nc, ns, Q⟩ := X
  obtain ⟨hx, hb, hml, hown, hts, hK, hR, hcc, hss, -⟩ := C
  intro H locs ls h1 h2 h3 h4 h5
  have k := (k H locs ls h1 h2 h3 h4 h5)
  unfold zand at k
  rw [zI_of] at k
  exact lv_iand hx hb hd k

theorem v_ior {G : GT} {X : CX} {Th : TH} {pc : Nat} {lv : List (Nat × Value)} {st : List Value} {cc : ByteArray} {nL : Nat} {own : String} {rm : Room} {l0 : Launch} (C : CT G l0 X cc nL own rm) {a b : Int} (hd : decode cc pc = .ok (.ior, 1)) (k : V G X Th (pc + 1) lv (.int (zI (zor a b)) :: st)) : V G X Th (pc) lv (.int (zI b) :: .int (zI a) :: st) := by
  obtain ⟨p, l, e, R, s, m, args, below, meth, c, nc, ns, Q⟩ := X
  obtain ⟨hx, hb, hml, hown, hts, hK, hR, hcc, hss, -⟩ := C
  intro H locs ls h1 h2 h3 h4 h5
  have k := (k H locs ls h1 h2 h3 h4 h5)
  unfold zor at k
  rw [zI_of] at k
  exact lv_ior hx hb hd k

theorem v_ixor {G : GT} {X : CX} {Th : TH} {pc : Nat} {lv : List (Nat × Value)} {st : List Value} {cc : ByteArray} {nL : Nat} {own : String} {rm : Room} {l0 : Launch} (C : CT G l0 X cc nL own rm) {a b : Int} (hd : decode cc pc = .ok (.ixor, 1)) (k : V G X Th (pc + 1) lv (.int (zI (zxor a b)) :: st)) : V G X Th (pc) lv (.int (zI b) :: .int (zI a) :: st) := by
  obtain ⟨p, l, e, R, s, m, args, below, meth, c, nc, ns, Q⟩ := X
  obtain ⟨hx, hb, hml, hown, hts, hK, hR, hcc, hss, -⟩ := C
  intro H locs ls h1 h2 h3 h4 h5
  have k := (k H locs ls h1 h2 h3 h4 h5)
  unfold zxor at k
  rw [zI_of] at k
  exact lv_ixor hx hb hd k

theorem v_ishl {G : GT} {X : CX} {Th : TH} {pc : Nat} {lv : List (Nat × Value)} {st : List Value} {cc : ByteArray} {nL : Nat} {own : String} {rm : Room} {l0 : Launch} (C : CT G l0 X cc nL own rm) {a b : Int} (hd : decode cc pc = .ok (.ishl, 1)) (k : V G X Th (pc + 1) lv (.int (zI (zshl a b)) :: st)) : V G X Th (pc) lv (.int (zI b) :: .int (zI a) :: st) := by
  obtain ⟨p, l, e, R, s, m, args, below, meth, c, nc, ns, Q⟩ := X
  obtain ⟨hx, hb, hml, hown, hts, hK, hR, hcc, hss, -⟩ := C
  intro H locs ls h1 h2 h3 h4 h5
  have k := (k H locs ls h1 h2 h3 h4 h5)
  unfold zshl at k
  rw [zI_of] at k
  exact lv_ishl hx hb hd k

theorem v_ishr {G : GT} {X : CX} {Th : TH} {pc : Nat} {lv : List (Nat × Value)} {st : List Value} {cc : ByteArray} {nL : Nat} {own : String} {rm : Room} {l0 : Launch} (C : CT G l0 X cc nL own rm) {a b : Int} (hd : decode cc pc = .ok (.ishr, 1)) (k : V G X Th (pc + 1) lv (.int (zI (zshr a b)) :: st)) : V G X Th (pc) lv (.int (zI b) :: .int (zI a) :: st) := by
  obtain ⟨p, l, e, R, s, m, args, below, meth, c, nc, ns, Q⟩ := X
  obtain ⟨hx, hb, hml, hown, hts, hK, hR, hcc, hss, -⟩ := C
  intro H locs ls h1 h2 h3 h4 h5
  have k := (k H locs ls h1 h2 h3 h4 h5)
  unfold zshr at k
  rw [zI_of] at k
  exact lv_ishr hx hb hd k

theorem v_iushr {G : GT} {X : CX} {Th : TH} {pc : Nat} {lv : List (Nat × Value)} {st : List Value} {cc : ByteArray} {nL : Nat} {own : String} {rm : Room} {l0 : Launch} (C : CT G l0 X cc nL own rm) {a b : Int} (hd : decode cc pc = .ok (.iushr, 1)) (k : V G X Th (pc + 1) lv (.int (zI (zushr a b)) :: st)) : V G X Th (pc) lv (.int (zI b) :: .int (zI a) :: st) := by
  obtain ⟨p, l, e, R, s, m, args, below, meth, c, nc, ns, Q⟩ := X
  obtain ⟨hx, hb, hml, hown, hts, hK, hR, hcc, hss, -⟩ := C
  intro H locs ls h1 h2 h3 h4 h5
  exact lv_iushr hx hb hd (by unfold zushr; rw [zI_of]) (k H locs ls h1 h2 h3 h4 h5)

theorem v_idiv {G : GT} {X : CX} {Th : TH} {pc : Nat} {lv : List (Nat × Value)} {st : List Value} {cc : ByteArray} {nL : Nat} {own : String} {rm : Room} {l0 : Launch} (C : CT G l0 X cc nL own rm) {a b : Int} (hd : decode cc pc = .ok (.idiv, 1)) (hr : zR b) (hne : b ≠ 0) (k : V G X Th (pc + 1) lv (.int (zI (zdiv a b)) :: st)) : V G X Th (pc) lv (.int (zI b) :: .int (zI a) :: st) := by
  obtain ⟨p, l, e, R, s, m, args, below, meth, c, nc, ns, Q⟩ := X
  obtain ⟨hx, hb, hml, hown, hts, hK, hR, hcc, hss, -⟩ := C
  intro H locs ls h1 h2 h3 h4 h5
  have k := (k H locs ls h1 h2 h3 h4 h5)
  unfold zdiv at k
  rw [zI_of] at k
  exact lv_idiv hx hb hd (fun q => hne ((zI_eq hr z0).mp q)) k

theorem v_irem {G : GT} {X : CX} {Th : TH} {pc : Nat} {lv : List (Nat × Value)} {st : List Value} {cc : ByteArray} {nL : Nat} {own : String} {rm : Room} {l0 : Launch} (C : CT G l0 X cc nL own rm) {a b : Int} (hd : decode cc pc = .ok (.irem, 1)) (hr : zR b) (hne : b ≠ 0) (k : V G X Th (pc + 1) lv (.int (zI (zrem a b)) :: st)) : V G X Th (pc) lv (.int (zI b) :: .int (zI a) :: st) := by
  obtain ⟨p, l, e, R, s, m, args, below, meth, c, nc, ns, Q⟩ := X
  obtain ⟨hx, hb, hml, hown, hts, hK, hR, hcc, hss, -⟩ := C
  intro H locs ls h1 h2 h3 h4 h5
  have k := (k H locs ls h1 h2 h3 h4 h5)
  unfold zrem at k
  rw [zI_of] at k
  exact lv_irem hx hb hd (fun q => hne ((zI_eq hr z0).mp q)) k

theorem v_ladd {G : GT} {X : CX} {Th : TH} {pc : Nat} {lv : List (Nat × Value)} {st : List Value} {cc : ByteArray} {nL : Nat} {own : String} {rm : Room} {l0 : Launch} (C : CT G l0 X cc nL own rm) {a b : Int} (hd : decode cc pc = .ok (.ladd, 1)) (k : V G X Th (pc + 1) lv (.long (zJ (a + b)) :: st)) : V G X Th (pc) lv (.long (zJ b) :: .long (zJ a) :: st) := by
  obtain ⟨p, l, e, R, s, m, args, below, meth, c, nc, ns, Q⟩ := X
  obtain ⟨hx, hb, hml, hown, hts, hK, hR, hcc, hss, -⟩ := C
  intro H locs ls h1 h2 h3 h4 h5
  have k := (k H locs ls h1 h2 h3 h4 h5)
  rw [← zJ_add a b] at k
  exact lv_ladd hx hb hd k

theorem v_lsub {G : GT} {X : CX} {Th : TH} {pc : Nat} {lv : List (Nat × Value)} {st : List Value} {cc : ByteArray} {nL : Nat} {own : String} {rm : Room} {l0 : Launch} (C : CT G l0 X cc nL own rm) {a b : Int} (hd : decode cc pc = .ok (.lsub, 1)) (k : V G X Th (pc + 1) lv (.long (zJ (a - b)) :: st)) : V G X Th (pc) lv (.long (zJ b) :: .long (zJ a) :: st) := by
  obtain ⟨p, l, e, R, s, m, args, below, meth, c, nc, ns, Q⟩ := X
  obtain ⟨hx, hb, hml, hown, hts, hK, hR, hcc, hss, -⟩ := C
  intro H locs ls h1 h2 h3 h4 h5
  have k := (k H locs ls h1 h2 h3 h4 h5)
  rw [← zJ_sub a b] at k
  exact lv_lsub hx hb hd k

theorem v_lmul {G : GT} {X : CX} {Th : TH} {pc : Nat} {lv : List (Nat × Value)} {st : List Value} {cc : ByteArray} {nL : Nat} {own : String} {rm : Room} {l0 : Launch} (C : CT G l0 X cc nL own rm) {a b : Int} (hd : decode cc pc = .ok (.lmul, 1)) (k : V G X Th (pc + 1) lv (.long (zJ (a * b)) :: st)) : V G X Th (pc) lv (.long (zJ b) :: .long (zJ a) :: st) := by
  obtain ⟨p, l, e, R, s, m, args, below, meth, c, nc, ns, Q⟩ := X
  obtain ⟨hx, hb, hml, hown, hts, hK, hR, hcc, hss, -⟩ := C
  intro H locs ls h1 h2 h3 h4 h5
  have k := (k H locs ls h1 h2 h3 h4 h5)
  rw [← zJ_mul a b] at k
  exact lv_lmul hx hb hd k

theorem v_land {G : GT} {X : CX} {Th : TH} {pc : Nat} {lv : List (Nat × Value)} {st : List Value} {cc : ByteArray} {nL : Nat} {own : String} {rm : Room} {l0 : Launch} (C : CT G l0 X cc nL own rm) {a b : Int} (hd : decode cc pc = .ok (.land, 1)) (k : V G X Th (pc + 1) lv (.long (zJ (zlandL a b)) :: st)) : V G X Th (pc) lv (.long (zJ b) :: .long (zJ a) :: st) := by
  obtain ⟨p, l, e, R, s, m, args, below, meth, c, nc, ns, Q⟩ := X
  obtain ⟨hx, hb, hml, hown, hts, hK, hR, hcc, hss, -⟩ := C
  intro H locs ls h1 h2 h3 h4 h5
  have k := (k H locs ls h1 h2 h3 h4 h5)
  unfold zlandL at k
  rw [zJ_of] at k
  exact lv_land hx hb hd k

theorem v_ldiv {G : GT} {X : CX} {Th : TH} {pc : Nat} {lv : List (Nat × Value)} {st : List Value} {cc : ByteArray} {nL : Nat} {own : String} {rm : Room} {l0 : Launch} (C : CT G l0 X cc nL own rm) {a b : Int} (hd : decode cc pc = .ok (.ldiv, 1)) (hr : zRL b) (hne : b ≠ 0) (k : V G X Th (pc + 1) lv (.long (zJ (zdivL a b)) :: st)) : V G X Th (pc) lv (.long (zJ b) :: .long (zJ a) :: st) := by
  obtain ⟨p, l, e, R, s, m, args, below, meth, c, nc, ns, Q⟩ := X
  obtain ⟨hx, hb, hml, hown, hts, hK, hR, hcc, hss, -⟩ := C
  intro H locs ls h1 h2 h3 h4 h5
  have k := (k H locs ls h1 h2 h3 h4 h5)
  unfold zdivL at k
  rw [zJ_of] at k
  exact lv_ldiv hx hb hd (fun q => hne ((zJ_eq hr (by unfold zRL; omega)).mp q)) k

theorem v_lrem {G : GT} {X : CX} {Th : TH} {pc : Nat} {lv : List (Nat × Value)} {st : List Value} {cc : ByteArray} {nL : Nat} {own : String} {rm : Room} {l0 : Launch} (C : CT G l0 X cc nL own rm) {a b : Int} (hd : decode cc pc = .ok (.lrem, 1)) (hr : zRL b) (hne : b ≠ 0) (k : V G X Th (pc + 1) lv (.long (zJ (zremL a b)) :: st)) : V G X Th (pc) lv (.long (zJ b) :: .long (zJ a) :: st) := by
  obtain ⟨p, l, e, R, s, m, args, below, meth, c, nc, ns, Q⟩ := X
  obtain ⟨hx, hb, hml, hown, hts, hK, hR, hcc, hss, -⟩ := C
  intro H locs ls h1 h2 h3 h4 h5
  have k := (k H locs ls h1 h2 h3 h4 h5)
  unfold zremL at k
  rw [zJ_of] at k
  exact lv_lrem hx hb hd (fun q => hne ((zJ_eq hr (by unfold zRL; omega)).mp q)) k

theorem v_i2l {G : GT} {X : CX} {Th : TH} {pc : Nat} {lv : List (Nat × Value)} {st : List Value} {cc : ByteArray} {nL : Nat} {own : String} {rm : Room} {l0 : Launch} (C : CT G l0 X cc nL own rm) {a : Int} (hd : decode cc pc = .ok (.i2l, 1)) (hr : zR a) (k : V G X Th (pc + 1) lv (.long (zJ a) :: st)) : V G X Th (pc) lv (.int (zI a) :: st) := by
  obtain ⟨p, l, e, R, s, m, args, below, meth, c, nc, ns, Q⟩ := X
  obtain ⟨hx, hb, hml, hown, hts, hK, hR, hcc, hss, -⟩ := C
  intro H locs ls h1 h2 h3 h4 h5
  exact lv_i2l hx hb hd (zI_toInt64 hr) (k H locs ls h1 h2 h3 h4 h5)

theorem v_l2i {G : GT} {X : CX} {Th : TH} {pc : Nat} {lv : List (Nat × Value)} {st : List Value} {cc : ByteArray} {nL : Nat} {own : String} {rm : Room} {l0 : Launch} (C : CT G l0 X cc nL own rm) {a : Int} (hd : decode cc pc = .ok (.l2i, 1)) (k : V G X Th (pc + 1) lv (.int (zI a) :: st)) : V G X Th (pc) lv (.long (zJ a) :: st) := by
  obtain ⟨p, l, e, R, s, m, args, below, meth, c, nc, ns, Q⟩ := X
  obtain ⟨hx, hb, hml, hown, hts, hK, hR, hcc, hss, -⟩ := C
  intro H locs ls h1 h2 h3 h4 h5
  exact lv_l2i hx hb hd (zJ_toInt32 a) (k H locs ls h1 h2 h3 h4 h5)

theorem zcmp {a b : Int} (ha : zRL a) (hb : zRL b) : lg_cmp (zJ a) (zJ b) = zI (if b < a then 1 else if a = b then 0 else -1) := by
  unfold lg_cmp
  simp only [zJ_lt hb ha, zJ_eq ha hb]
  by_cases h1 : b < a
  · rw [if_pos h1, if_pos h1]; rfl
  · rw [if_neg h1, if_neg h1]
    by_cases h2 : a = b
    · rw [if_pos h2, if_pos h2]; rfl
    · rw [if_neg h2, if_neg h2]; rfl
def zlc (a b : Int) : Int := if b < a then 1 else if a = b then 0 else -1

theorem v_lcmp {G : GT} {X : CX} {Th : TH} {pc : Nat} {lv : List (Nat × Value)} {st : List Value} {cc : ByteArray} {nL : Nat} {own : String} {rm : Room} {l0 : Launch} (C : CT G l0 X cc nL own rm) {a b : Int} (hd : decode cc pc = .ok (.lcmp, 1)) (ha : zRL a) (hb3 : zRL b) (k : V G X Th (pc + 1) lv (.int (zI (zlc a b)) :: st)) : V G X Th (pc) lv (.long (zJ b) :: .long (zJ a) :: st) := by
  obtain ⟨p, l, e, R, s, m, args, below, meth, c, nc, ns, Q⟩ := X
  obtain ⟨hx, hb, hml, hown, hts, hK, hR, hcc, hss, -⟩ := C
  intro H locs ls h1 h2 h3 h4 h5
  have k := (k H locs ls h1 h2 h3 h4 h5)
  unfold zlc at k
  rw [← zcmp ha hb3] at k
  exact W.lcmp hx hb hd k

theorem v_dup {G : GT} {X : CX} {Th : TH} {pc : Nat} {lv : List (Nat × Value)} {st : List Value} {cc : ByteArray} {nL : Nat} {own : String} {rm : Room} {l0 : Launch} (C : CT G l0 X cc nL own rm) {v : Value} (hd : decode cc pc = .ok (.dup, 1)) (hv : v.category = 1) (k : V G X Th (pc + 1) lv (v :: v :: st)) : V G X Th (pc) lv (v :: st) := by
  obtain ⟨p, l, e, R, s, m, args, below, meth, c, nc, ns, Q⟩ := X
  obtain ⟨hx, hb, hml, hown, hts, hK, hR, hcc, hss, -⟩ := C
  intro H locs ls h1 h2 h3 h4 h5
  exact lv_dup hx hb hd hv (k H locs ls h1 h2 h3 h4 h5)

theorem v_pop {G : GT} {X : CX} {Th : TH} {pc : Nat} {lv : List (Nat × Value)} {st : List Value} {cc : ByteArray} {nL : Nat} {own : String} {rm : Room} {l0 : Launch} (C : CT G l0 X cc nL own rm) {v : Value} (hd : decode cc pc = .ok (.pop, 1)) (hv : v.category = 1) (k : V G X Th (pc + 1) lv (st)) : V G X Th (pc) lv (v :: st) := by
  obtain ⟨p, l, e, R, s, m, args, below, meth, c, nc, ns, Q⟩ := X
  obtain ⟨hx, hb, hml, hown, hts, hK, hR, hcc, hss, -⟩ := C
  intro H locs ls h1 h2 h3 h4 h5
  exact lv_pop hx hb hd hv (k H locs ls h1 h2 h3 h4 h5)

theorem v_dup2 {G : GT} {X : CX} {Th : TH} {pc : Nat} {lv : List (Nat × Value)} {st : List Value} {cc : ByteArray} {nL : Nat} {own : String} {rm : Room} {l0 : Launch} (C : CT G l0 X cc nL own rm) {v w : Value} (hd : decode cc pc = .ok (.dup2, 1)) (hv : v.category = 1) (hw : w.category = 1) (k : V G X Th (pc + 1) lv (v :: w :: v :: w :: st)) : V G X Th (pc) lv (v :: w :: st) := by
  obtain ⟨p, l, e, R, s, m, args, below, meth, c, nc, ns, Q⟩ := X
  obtain ⟨hx, hb, hml, hown, hts, hK, hR, hcc, hss, -⟩ := C
  intro H locs ls h1 h2 h3 h4 h5
  exact lv_dup2_11 hx hb hd hv hw (k H locs ls h1 h2 h3 h4 h5)

theorem v_goto {G : GT} {X : CX} {Th : TH} {pc : Nat} {lv : List (Nat × Value)} {st : List Value} {cc : ByteArray} {nL : Nat} {own : String} {rm : Room} {l0 : Launch} (C : CT G l0 X cc nL own rm) {off : Int} {tgt : Nat} (hd : decode cc pc = .ok (.goto off, 3)) (ht : (pc : Int) + off = (tgt : Int)) (k : V G X Th (tgt) lv (st)) : V G X Th (pc) lv (st) := by
  obtain ⟨p, l, e, R, s, m, args, below, meth, c, nc, ns, Q⟩ := X
  obtain ⟨hx, hb, hml, hown, hts, hK, hR, hcc, hss, -⟩ := C
  intro H locs ls h1 h2 h3 h4 h5
  exact lv_goto hx hb hd ht (k H locs ls h1 h2 h3 h4 h5)

theorem v_icmp_eq {G : GT} {X : CX} {Th : TH} {pc : Nat} {lv : List (Nat × Value)} {st : List Value} {cc : ByteArray} {nL : Nat} {own : String} {rm : Room} {l0 : Launch} (C : CT G l0 X cc nL own rm) {a b off : Int} {tgt : Nat} (hd : decode cc pc = .ok (.if_icmp .eq off, 3)) (ht : (pc : Int) + off = (tgt : Int)) (ha : zR a) (hb2 : zR b) (kt : a = b → V G X Th (tgt) lv (st)) (kf : ¬ (a = b) → V G X Th (pc + 3) lv (st)) : V G X Th (pc) lv (.int (zI b) :: .int (zI a) :: st) := by
  obtain ⟨p, l, e, R, s, m, args, below, meth, c, nc, ns, Q⟩ := X
  obtain ⟨hx, hb, hml, hown, hts, hK, hR, hcc, hss, -⟩ := C
  intro H locs ls h1 h2 h3 h4 h5
  exact lv_icmp_eq hx hb hd ht (fun q => kt ((zI_eq ha hb2).mp q) H locs ls h1 h2 h3 h4 h5) (fun q => kf (fun z => q ((zI_eq ha hb2).mpr z)) H locs ls h1 h2 h3 h4 h5)

theorem v_if_eq {G : GT} {X : CX} {Th : TH} {pc : Nat} {lv : List (Nat × Value)} {st : List Value} {cc : ByteArray} {nL : Nat} {own : String} {rm : Room} {l0 : Launch} (C : CT G l0 X cc nL own rm) {a off : Int} {tgt : Nat} (hd : decode cc pc = .ok (.ifCond .eq off, 3)) (ht : (pc : Int) + off = (tgt : Int)) (ha : zR a) (kt : a = 0 → V G X Th (tgt) lv (st)) (kf : ¬ (a = 0) → V G X Th (pc + 3) lv (st)) : V G X Th (pc) lv (.int (zI a) :: st) := by
  obtain ⟨p, l, e, R, s, m, args, below, meth, c, nc, ns, Q⟩ := X
  obtain ⟨hx, hb, hml, hown, hts, hK, hR, hcc, hss, -⟩ := C
  intro H locs ls h1 h2 h3 h4 h5
  exact lv_if_eq hx hb hd ht (fun q => kt ((zI_eq ha z0).mp q) H locs ls h1 h2 h3 h4 h5) (fun q => kf (fun z => q ((zI_eq ha z0).mpr z)) H locs ls h1 h2 h3 h4 h5)

theorem v_icmp_ne {G : GT} {X : CX} {Th : TH} {pc : Nat} {lv : List (Nat × Value)} {st : List Value} {cc : ByteArray} {nL : Nat} {own : String} {rm : Room} {l0 : Launch} (C : CT G l0 X cc nL own rm) {a b off : Int} {tgt : Nat} (hd : decode cc pc = .ok (.if_icmp .ne off, 3)) (ht : (pc : Int) + off = (tgt : Int)) (ha : zR a) (hb2 : zR b) (kt : ¬ a = b → V G X Th (tgt) lv (st)) (kf : a = b → V G X Th (pc + 3) lv (st)) : V G X Th (pc) lv (.int (zI b) :: .int (zI a) :: st) := by
  obtain ⟨p, l, e, R, s, m, args, below, meth, c, nc, ns, Q⟩ := X
  obtain ⟨hx, hb, hml, hown, hts, hK, hR, hcc, hss, -⟩ := C
  intro H locs ls h1 h2 h3 h4 h5
  exact lv_icmp_ne hx hb hd ht (fun q => kt ((not_congr (zI_eq ha hb2)).mp q) H locs ls h1 h2 h3 h4 h5) (fun q => kf ((zI_eq ha hb2).mp q) H locs ls h1 h2 h3 h4 h5)

theorem v_if_ne {G : GT} {X : CX} {Th : TH} {pc : Nat} {lv : List (Nat × Value)} {st : List Value} {cc : ByteArray} {nL : Nat} {own : String} {rm : Room} {l0 : Launch} (C : CT G l0 X cc nL own rm) {a off : Int} {tgt : Nat} (hd : decode cc pc = .ok (.ifCond .ne off, 3)) (ht : (pc : Int) + off = (tgt : Int)) (ha : zR a) (kt : ¬ a = 0 → V G X Th (tgt) lv (st)) (kf : a = 0 → V G X Th (pc + 3) lv (st)) : V G X Th (pc) lv (.int (zI a) :: st) := by
  obtain ⟨p, l, e, R, s, m, args, below, meth, c, nc, ns, Q⟩ := X
  obtain ⟨hx, hb, hml, hown, hts, hK, hR, hcc, hss, -⟩ := C
  intro H locs ls h1 h2 h3 h4 h5
  exact lv_if_ne hx hb hd ht (fun q => kt ((not_congr (zI_eq ha z0)).mp q) H locs ls h1 h2 h3 h4 h5) (fun q => kf ((zI_eq ha z0).mp q) H locs ls h1 h2 h3 h4 h5)

theorem v_icmp_lt {G : GT} {X : CX} {Th : TH} {pc : Nat} {lv : List (Nat × Value)} {st : List Value} {cc : ByteArray} {nL : Nat} {own : String} {rm : Room} {l0 : Launch} (C : CT G l0 X cc nL own rm) {a b off : Int} {tgt : Nat} (hd : decode cc pc = .ok (.if_icmp .lt off, 3)) (ht : (pc : Int) + off = (tgt : Int)) (ha : zR a) (hb2 : zR b) (kt : a < b → V G X Th (tgt) lv (st)) (kf : ¬ (a < b) → V G X Th (pc + 3) lv (st)) : V G X Th (pc) lv (.int (zI b) :: .int (zI a) :: st) := by
  obtain ⟨p, l, e, R, s, m, args, below, meth, c, nc, ns, Q⟩ := X
  obtain ⟨hx, hb, hml, hown, hts, hK, hR, hcc, hss, -⟩ := C
  intro H locs ls h1 h2 h3 h4 h5
  exact lv_icmp_lt hx hb hd ht (fun q => kt ((zI_lt ha hb2).mp q) H locs ls h1 h2 h3 h4 h5) (fun q => kf (fun z => q ((zI_lt ha hb2).mpr z)) H locs ls h1 h2 h3 h4 h5)

theorem v_if_lt {G : GT} {X : CX} {Th : TH} {pc : Nat} {lv : List (Nat × Value)} {st : List Value} {cc : ByteArray} {nL : Nat} {own : String} {rm : Room} {l0 : Launch} (C : CT G l0 X cc nL own rm) {a off : Int} {tgt : Nat} (hd : decode cc pc = .ok (.ifCond .lt off, 3)) (ht : (pc : Int) + off = (tgt : Int)) (ha : zR a) (kt : a < 0 → V G X Th (tgt) lv (st)) (kf : ¬ (a < 0) → V G X Th (pc + 3) lv (st)) : V G X Th (pc) lv (.int (zI a) :: st) := by
  obtain ⟨p, l, e, R, s, m, args, below, meth, c, nc, ns, Q⟩ := X
  obtain ⟨hx, hb, hml, hown, hts, hK, hR, hcc, hss, -⟩ := C
  intro H locs ls h1 h2 h3 h4 h5
  exact lv_if_lt hx hb hd ht (fun q => kt ((zI_lt ha z0).mp q) H locs ls h1 h2 h3 h4 h5) (fun q => kf (fun z => q ((zI_lt ha z0).mpr z)) H locs ls h1 h2 h3 h4 h5)

theorem v_icmp_ge {G : GT} {X : CX} {Th : TH} {pc : Nat} {lv : List (Nat × Value)} {st : List Value} {cc : ByteArray} {nL : Nat} {own : String} {rm : Room} {l0 : Launch} (C : CT G l0 X cc nL own rm) {a b off : Int} {tgt : Nat} (hd : decode cc pc = .ok (.if_icmp .ge off, 3)) (ht : (pc : Int) + off = (tgt : Int)) (ha : zR a) (hb2 : zR b) (kt : b ≤ a → V G X Th (tgt) lv (st)) (kf : ¬ (b ≤ a) → V G X Th (pc + 3) lv (st)) : V G X Th (pc) lv (.int (zI b) :: .int (zI a) :: st) := by
  obtain ⟨p, l, e, R, s, m, args, below, meth, c, nc, ns, Q⟩ := X
  obtain ⟨hx, hb, hml, hown, hts, hK, hR, hcc, hss, -⟩ := C
  intro H locs ls h1 h2 h3 h4 h5
  exact lv_icmp_ge hx hb hd ht (fun q => kt ((zI_le hb2 ha).mp q) H locs ls h1 h2 h3 h4 h5) (fun q => kf (fun z => q ((zI_le hb2 ha).mpr z)) H locs ls h1 h2 h3 h4 h5)

theorem v_if_ge {G : GT} {X : CX} {Th : TH} {pc : Nat} {lv : List (Nat × Value)} {st : List Value} {cc : ByteArray} {nL : Nat} {own : String} {rm : Room} {l0 : Launch} (C : CT G l0 X cc nL own rm) {a off : Int} {tgt : Nat} (hd : decode cc pc = .ok (.ifCond .ge off, 3)) (ht : (pc : Int) + off = (tgt : Int)) (ha : zR a) (kt : 0 ≤ a → V G X Th (tgt) lv (st)) (kf : ¬ (0 ≤ a) → V G X Th (pc + 3) lv (st)) : V G X Th (pc) lv (.int (zI a) :: st) := by
  obtain ⟨p, l, e, R, s, m, args, below, meth, c, nc, ns, Q⟩ := X
  obtain ⟨hx, hb, hml, hown, hts, hK, hR, hcc, hss, -⟩ := C
  intro H locs ls h1 h2 h3 h4 h5
  exact lv_if_ge hx hb hd ht (fun q => kt ((zI_le z0 ha).mp q) H locs ls h1 h2 h3 h4 h5) (fun q => kf (fun z => q ((zI_le z0 ha).mpr z)) H locs ls h1 h2 h3 h4 h5)

theorem v_icmp_gt {G : GT} {X : CX} {Th : TH} {pc : Nat} {lv : List (Nat × Value)} {st : List Value} {cc : ByteArray} {nL : Nat} {own : String} {rm : Room} {l0 : Launch} (C : CT G l0 X cc nL own rm) {a b off : Int} {tgt : Nat} (hd : decode cc pc = .ok (.if_icmp .gt off, 3)) (ht : (pc : Int) + off = (tgt : Int)) (ha : zR a) (hb2 : zR b) (kt : b < a → V G X Th (tgt) lv (st)) (kf : ¬ (b < a) → V G X Th (pc + 3) lv (st)) : V G X Th (pc) lv (.int (zI b) :: .int (zI a) :: st) := by
  obtain ⟨p, l, e, R, s, m, args, below, meth, c, nc, ns, Q⟩ := X
  obtain ⟨hx, hb, hml, hown, hts, hK, hR, hcc, hss, -⟩ := C
  intro H locs ls h1 h2 h3 h4 h5
  exact lv_icmp_gt hx hb hd ht (fun q => kt ((zI_lt hb2 ha).mp q) H locs ls h1 h2 h3 h4 h5) (fun q => kf (fun z => q ((zI_lt hb2 ha).mpr z)) H locs ls h1 h2 h3 h4 h5)

theorem v_if_gt {G : GT} {X : CX} {Th : TH} {pc : Nat} {lv : List (Nat × Value)} {st : List Value} {cc : ByteArray} {nL : Nat} {own : String} {rm : Room} {l0 : Launch} (C : CT G l0 X cc nL own rm) {a off : Int} {tgt : Nat} (hd : decode cc pc = .ok (.ifCond .gt off, 3)) (ht : (pc : Int) + off = (tgt : Int)) (ha : zR a) (kt : 0 < a → V G X Th (tgt) lv (st)) (kf : ¬ (0 < a) → V G X Th (pc + 3) lv (st)) : V G X Th (pc) lv (.int (zI a) :: st) := by
  obtain ⟨p, l, e, R, s, m, args, below, meth, c, nc, ns, Q⟩ := X
  obtain ⟨hx, hb, hml, hown, hts, hK, hR, hcc, hss, -⟩ := C
  intro H locs ls h1 h2 h3 h4 h5
  exact lv_if_gt hx hb hd ht (fun q => kt ((zI_lt z0 ha).mp q) H locs ls h1 h2 h3 h4 h5) (fun q => kf (fun z => q ((zI_lt z0 ha).mpr z)) H locs ls h1 h2 h3 h4 h5)

theorem v_icmp_le {G : GT} {X : CX} {Th : TH} {pc : Nat} {lv : List (Nat × Value)} {st : List Value} {cc : ByteArray} {nL : Nat} {own : String} {rm : Room} {l0 : Launch} (C : CT G l0 X cc nL own rm) {a b off : Int} {tgt : Nat} (hd : decode cc pc = .ok (.if_icmp .le off, 3)) (ht : (pc : Int) + off = (tgt : Int)) (ha : zR a) (hb2 : zR b) (kt : a ≤ b → V G X Th (tgt) lv (st)) (kf : ¬ (a ≤ b) → V G X Th (pc + 3) lv (st)) : V G X Th (pc) lv (.int (zI b) :: .int (zI a) :: st) := by
  obtain ⟨p, l, e, R, s, m, args, below, meth, c, nc, ns, Q⟩ := X
  obtain ⟨hx, hb, hml, hown, hts, hK, hR, hcc, hss, -⟩ := C
  intro H locs ls h1 h2 h3 h4 h5
  exact lv_icmp_le hx hb hd ht (fun q => kt ((zI_le ha hb2).mp q) H locs ls h1 h2 h3 h4 h5) (fun q => kf (fun z => q ((zI_le ha hb2).mpr z)) H locs ls h1 h2 h3 h4 h5)

theorem v_if_le {G : GT} {X : CX} {Th : TH} {pc : Nat} {lv : List (Nat × Value)} {st : List Value} {cc : ByteArray} {nL : Nat} {own : String} {rm : Room} {l0 : Launch} (C : CT G l0 X cc nL own rm) {a off : Int} {tgt : Nat} (hd : decode cc pc = .ok (.ifCond .le off, 3)) (ht : (pc : Int) + off = (tgt : Int)) (ha : zR a) (kt : a ≤ 0 → V G X Th (tgt) lv (st)) (kf : ¬ (a ≤ 0) → V G X Th (pc + 3) lv (st)) : V G X Th (pc) lv (.int (zI a) :: st) := by
  obtain ⟨p, l, e, R, s, m, args, below, meth, c, nc, ns, Q⟩ := X
  obtain ⟨hx, hb, hml, hown, hts, hK, hR, hcc, hss, -⟩ := C
  intro H locs ls h1 h2 h3 h4 h5
  exact lv_if_le hx hb hd ht (fun q => kt ((zI_le ha z0).mp q) H locs ls h1 h2 h3 h4 h5) (fun q => kf (fun z => q ((zI_le ha z0).mpr z)) H locs ls h1 h2 h3 h4 h5)

theorem zi_ne (b : Bool) : zi b = 0 ↔ b = false := by cases b <;> decide
theorem zi_R (b : Bool) : zR (zi b) := by cases b <;> (unfold zR zi; decide)

theorem v_ifz_eq {G : GT} {X : CX} {Th : TH} {pc : Nat} {lv : List (Nat × Value)} {st : List Value} {cc : ByteArray} {nL : Nat} {own : String} {rm : Room} {l0 : Launch} (C : CT G l0 X cc nL own rm) {b : Bool} {off : Int} {tgt : Nat} (hd : decode cc pc = .ok (.ifCond .eq off, 3)) (ht : (pc : Int) + off = (tgt : Int)) (kt : b = false → V G X Th (tgt) lv (st)) (kf : b = true → V G X Th (pc + 3) lv (st)) : V G X Th (pc) lv (.int (zI (zi b)) :: st) := by
  obtain ⟨p, l, e, R, s, m, args, below, meth, c, nc, ns, Q⟩ := X
  obtain ⟨hx, hb, hml, hown, hts, hK, hR, hcc, hss, -⟩ := C
  intro H locs ls h1 h2 h3 h4 h5
  refine lv_if_eq hx hb hd ht (fun q => kt ((zi_ne b).mp ((zI_eq (zi_R b) z0).mp q)) H locs ls h1 h2 h3 h4 h5) (fun q => kf ?_ H locs ls h1 h2 h3 h4 h5)
  cases b with
  | true => rfl
  | false => exact absurd rfl q

theorem v_ifz_ne {G : GT} {X : CX} {Th : TH} {pc : Nat} {lv : List (Nat × Value)} {st : List Value} {cc : ByteArray} {nL : Nat} {own : String} {rm : Room} {l0 : Launch} (C : CT G l0 X cc nL own rm) {b : Bool} {off : Int} {tgt : Nat} (hd : decode cc pc = .ok (.ifCond .ne off, 3)) (ht : (pc : Int) + off = (tgt : Int)) (kt : b = true → V G X Th (tgt) lv (st)) (kf : b = false → V G X Th (pc + 3) lv (st)) : V G X Th (pc) lv (.int (zI (zi b)) :: st) := by
  obtain ⟨p, l, e, R, s, m, args, below, meth, c, nc, ns, Q⟩ := X
  obtain ⟨hx, hb, hml, hown, hts, hK, hR, hcc, hss, -⟩ := C
  intro H locs ls h1 h2 h3 h4 h5
  refine lv_if_ne hx hb hd ht (fun q => kt ?_ H locs ls h1 h2 h3 h4 h5) (fun q => kf ?_ H locs ls h1 h2 h3 h4 h5)
  · cases b with
    | true => rfl
    | false => exact absurd rfl q
  · cases b with
    | false => rfl
    | true => exact absurd q (by decide)

theorem v_tin {G : GT} {X : CX} {Th : TH} {pc : Nat} {lv : List (Nat × Value)} {st : List Value} {cc : ByteArray} {nL : Nat} {own : String} {rm : Room} {l0 : Launch} (C : CT G l0 X cc nL own rm) {a dflt lo hi off : Int} {offs : Array Int} {len tgt : Nat} (hd : decode cc pc = .ok (.tableswitch dflt lo hi offs, len)) (hr : zR a) (v : Int) (h : a = v) (hl : lo ≤ v) (hh : v ≤ hi) (ho : offs[(v - lo).toNat]? = some off) (ht : (pc : Int) + off = (tgt : Int)) (k : V G X Th (tgt) lv (st)) : V G X Th (pc) lv (.int (zI a) :: st) := by
  obtain ⟨p, l, e, R, s, m, args, below, meth, c, nc, ns, Q⟩ := X
  obtain ⟨hx, hb, hml, hown, hts, hK, hR, hcc, hss, -⟩ := C
  intro H locs ls h1 h2 h3 h4 h5
  subst h
  exact lv_tableIn hx hb hd (by rw [zI_toInt hr]; omega) (by rw [zI_toInt hr]; omega) (by rw [zI_toInt hr]; exact ho) ht (k H locs ls h1 h2 h3 h4 h5)

theorem v_tout {G : GT} {X : CX} {Th : TH} {pc : Nat} {lv : List (Nat × Value)} {st : List Value} {cc : ByteArray} {nL : Nat} {own : String} {rm : Room} {l0 : Launch} (C : CT G l0 X cc nL own rm) {a dflt lo hi : Int} {offs : Array Int} {len tgt : Nat} (hd : decode cc pc = .ok (.tableswitch dflt lo hi offs, len)) (hr : zR a) (h : a < lo ∨ hi < a) (ht : (pc : Int) + dflt = (tgt : Int)) (k : V G X Th (tgt) lv (st)) : V G X Th (pc) lv (.int (zI a) :: st) := by
  obtain ⟨p, l, e, R, s, m, args, below, meth, c, nc, ns, Q⟩ := X
  obtain ⟨hx, hb, hml, hown, hts, hK, hR, hcc, hss, -⟩ := C
  intro H locs ls h1 h2 h3 h4 h5
  exact lv_tableOut hx hb hd (by rw [zI_toInt hr]; exact h) ht (k H locs ls h1 h2 h3 h4 h5)

theorem v_look {G : GT} {X : CX} {Th : TH} {pc : Nat} {lv : List (Nat × Value)} {st : List Value} {cc : ByteArray} {nL : Nat} {own : String} {rm : Room} {l0 : Launch} (C : CT G l0 X cc nL own rm) {a dflt off : Int} {ps : Array (Int × Int)} {len tgt : Nat} (hd : decode cc pc = .ok (.lookupswitch dflt ps, len)) (hr : zR a) (hp : (ps.toList.zip (ps.toList.drop 1)).all (fun (a, next) => a.1 < next.1) = true) (ho : Op.lookupswitch.offset ps.toList dflt a = off) (ht : (pc : Int) + off = (tgt : Int)) (k : V G X Th (tgt) lv (st)) : V G X Th (pc) lv (.int (zI a) :: st) := by
  obtain ⟨p, l, e, R, s, m, args, below, meth, c, nc, ns, Q⟩ := X
  obtain ⟨hx, hb, hml, hown, hts, hK, hR, hcc, hss, -⟩ := C
  intro H locs ls h1 h2 h3 h4 h5
  exact lv_lookup hx hb hd hp (by rw [zI_toInt hr]; exact ho) ht (k H locs ls h1 h2 h3 h4 h5)

theorem v_sub {G : GT} {X : CX} {Th : TH} {pc : Nat} {lv lv' : List (Nat × Value)} {st : List Value} (ks : List Nat) (h : lv_pick lv ks = lv') (k : V G X Th pc lv' st) : V G X Th pc lv st := by
  obtain ⟨p, l, e, R, s, m, args, below, meth, c, nc, ns, Q⟩ := X
  intro H locs ls h1 h2 h3 h4 h5
  exact k H locs ls h1 h2 h3 h4 (lv_sub h5 ks h)
theorem i_X0 : ∀ w ∈ u_ws RX0 TX0 4, w ∈ lw_g := fun w h => List.mem_filter.mpr ((by decide +kernel : ∀ w ∈ u_ws RX0 TX0 4, w ∈ lw_tbl ∧ goodWord w = true) w h)
theorem i_X1 : ∀ w ∈ u_ws RX1 TX1 3, w ∈ lw_g := fun w h => List.mem_filter.mpr ((by decide +kernel : ∀ w ∈ u_ws RX1 TX1 3, w ∈ lw_tbl ∧ goodWord w = true) w h)
theorem i_X2 : ∀ w ∈ u_ws RX2 TX2 5, w ∈ lw_g := fun w h => List.mem_filter.mpr ((by decide +kernel : ∀ w ∈ u_ws RX2 TX2 5, w ∈ lw_tbl ∧ goodWord w = true) w h)
theorem i_X3 : ∀ w ∈ u_ws RX3 TX3 16, w ∈ lw_g := fun w h => List.mem_filter.mpr ((by decide +kernel : ∀ w ∈ u_ws RX3 TX3 16, w ∈ lw_tbl ∧ goodWord w = true) w h)
theorem i_X4 : ∀ w ∈ u_ws RX4 TX4 6, w ∈ lw_g := fun w h => List.mem_filter.mpr ((by decide +kernel : ∀ w ∈ u_ws RX4 TX4 6, w ∈ lw_tbl ∧ goodWord w = true) w h)
theorem i_X5 : ∀ w ∈ u_ws RX5 TX5 2, w ∈ lw_g := fun w h => List.mem_filter.mpr ((by decide +kernel : ∀ w ∈ u_ws RX5 TX5 2, w ∈ lw_tbl ∧ goodWord w = true) w h)
theorem i_X6 : ∀ w ∈ u_ws RX6 TX6 3, w ∈ lw_g := fun w h => List.mem_filter.mpr ((by decide +kernel : ∀ w ∈ u_ws RX6 TX6 3, w ∈ lw_tbl ∧ goodWord w = true) w h)
theorem i_X7 : ∀ w ∈ u_ws RX7 TX7 3, w ∈ lw_g := fun w h => List.mem_filter.mpr ((by decide +kernel : ∀ w ∈ u_ws RX7 TX7 3, w ∈ lw_tbl ∧ goodWord w = true) w h)
theorem i_X8 : ∀ w ∈ u_ws RX8 TX8 12, w ∈ lw_g := fun w h => List.mem_filter.mpr ((by decide +kernel : ∀ w ∈ u_ws RX8 TX8 12, w ∈ lw_tbl ∧ goodWord w = true) w h)
theorem i_X9 : ∀ w ∈ u_ws RX9 TX9 38, w ∈ lw_g := fun w h => List.mem_filter.mpr ((by decide +kernel : ∀ w ∈ u_ws RX9 TX9 38, w ∈ lw_tbl ∧ goodWord w = true) w h)
/-- what a kind of object is, for the rows: its name, its slots, their types -/
def KX (ci : Nat) (R : String) (T : u_T) (N : Nat) (ty : Nat → FieldType) : Prop := vwCl[ci]? = some (R, T, N) ∧ (∀ w ∈ u_ws R T N, w ∈ lw_g) ∧ (∀ k, k < N → parseFieldDescriptor (T k).2.2.1 = some (ty k)) ∧ (∀ a, a < N → ∀ b, b < N → a ≠ b → (T a).2.1 ≠ (T b).2.1) ∧ (kdT ci).length = N ∧ ci < 10

theorem kX0 : KX 0 RX0 TX0 4 tyX0 := ⟨rfl, i_X0, tyX0_ok, nmX0, rfl, by decide⟩
theorem kX1 : KX 1 RX1 TX1 3 tyX1 := ⟨rfl, i_X1, tyX1_ok, nmX1, rfl, by decide⟩
theorem kX2 : KX 2 RX2 TX2 5 tyX2 := ⟨rfl, i_X2, tyX2_ok, nmX2, rfl, by decide⟩
theorem kX3 : KX 3 RX3 TX3 16 tyX3 := ⟨rfl, i_X3, tyX3_ok, nmX3, rfl, by decide⟩
theorem kX4 : KX 4 RX4 TX4 6 tyX4 := ⟨rfl, i_X4, tyX4_ok, nmX4, rfl, by decide⟩
theorem kX5 : KX 5 RX5 TX5 2 tyX5 := ⟨rfl, i_X5, tyX5_ok, nmX5, rfl, by decide⟩
theorem kX6 : KX 6 RX6 TX6 3 tyX6 := ⟨rfl, i_X6, tyX6_ok, nmX6, rfl, by decide⟩
theorem kX7 : KX 7 RX7 TX7 3 tyX7 := ⟨rfl, i_X7, tyX7_ok, nmX7, rfl, by decide⟩
theorem kX8 : KX 8 RX8 TX8 12 tyX8 := ⟨rfl, i_X8, tyX8_ok, nmX8, rfl, by decide⟩
theorem kX9 : KX 9 RX9 TX9 38 tyX9 := ⟨rfl, i_X9, tyX9_ok, nmX9, rfl, by decide⟩
theorem v_getI {G : GT} {X : CX} {Th : TH} {pc : Nat} {lv : List (Nat × Value)} {st : List Value} {cc : ByteArray} {nL : Nat} {own : String} {rm : Room} {l0 : Launch} (C : CT G l0 X cc nL own rm) {ci : Nat} {Rc : String} {T : u_T} {N : Nat} {ty : Nat → FieldType} (kx : KX ci Rc T N ty) {o index : Nat} (j : Nat) (ho : clsO o = ci) (hk : (kdT ci)[j]? = some 0) (hw : Cond.fieldLink own index Rc (T j).2.1 (T j).2.2.1 ∈ lw_g) (hT : (T j).1 = Rc) (hd : decode cc pc = .ok (.getfield index, 3)) (k : V G X Th (pc + 3) lv (.int (zI (Th o j 0)) :: st)) : V G X Th (pc) lv (.ref (gad G o) :: st) := by
  obtain ⟨p, l, e, R, s, m, args, below, meth, c, nc, ns, Q⟩ := X
  obtain ⟨hx, hb, hml, hown, hts, hK, hR, hcc, hss, -⟩ := C
  intro H locs ls h1 h2 h3 h4 h5
  obtain ⟨kc, ki, -, -, kn, k10⟩ := kx
  subst ho
  obtain ⟨q, hq70, hq⟩ := wsT_obj o (clsO_lt rfl k10)
  have hN : j < N := by rw [← kn]; exact (List.getElem?_eq_some_iff.mp hk).1
  exact va_get hx hb hts ki hown hK h2 q (ws_at G Th hq) kc j hN (hts _ hw) (fun x h => by rw [← hT]; exact h) (flds_get G Th o hk) hd (k H locs ls h1 h2 h3 h4 h5)

theorem v_getA {G : GT} {X : CX} {Th : TH} {pc : Nat} {lv : List (Nat × Value)} {st : List Value} {cc : ByteArray} {nL : Nat} {own : String} {rm : Room} {l0 : Launch} (C : CT G l0 X cc nL own rm) {ci : Nat} {Rc : String} {T : u_T} {N : Nat} {ty : Nat → FieldType} (kx : KX ci Rc T N ty) {o index : Nat} (j : Nat) (ho : clsO o = ci) (hk : (kdT ci)[j]? = some 1) (hw : Cond.fieldLink own index Rc (T j).2.1 (T j).2.2.1 ∈ lw_g) (hT : (T j).1 = Rc) (hd : decode cc pc = .ok (.getfield index, 3)) (k : V G X Th (pc + 3) lv (.ref (gaa G o j) :: st)) : V G X Th (pc) lv (.ref (gad G o) :: st) := by
  obtain ⟨p, l, e, R, s, m, args, below, meth, c, nc, ns, Q⟩ := X
  obtain ⟨hx, hb, hml, hown, hts, hK, hR, hcc, hss, -⟩ := C
  intro H locs ls h1 h2 h3 h4 h5
  obtain ⟨kc, ki, -, -, kn, k10⟩ := kx
  subst ho
  obtain ⟨q, hq70, hq⟩ := wsT_obj o (clsO_lt rfl k10)
  have hN : j < N := by rw [← kn]; exact (List.getElem?_eq_some_iff.mp hk).1
  exact va_get hx hb hts ki hown hK h2 q (ws_at G Th hq) kc j hN (hts _ hw) (fun x h => by rw [← hT]; exact h) (flds_get G Th o hk) hd (k H locs ls h1 h2 h3 h4 h5)

theorem v_getC {G : GT} {X : CX} {Th : TH} {pc : Nat} {lv : List (Nat × Value)} {st : List Value} {cc : ByteArray} {nL : Nat} {own : String} {rm : Room} {l0 : Launch} (C : CT G l0 X cc nL own rm) {ci : Nat} {Rc : String} {T : u_T} {N : Nat} {ty : Nat → FieldType} (kx : KX ci Rc T N ty) {o index : Nat} (j : Nat) (ho : clsO o = ci) {n : Nat} (hk : (kdT ci)[j]? = some (n + 3)) (hw : Cond.fieldLink own index Rc (T j).2.1 (T j).2.2.1 ∈ lw_g) (hT : (T j).1 = Rc) (hd : decode cc pc = .ok (.getfield index, 3)) (k : V G X Th (pc + 3) lv (.ref (gad G n) :: st)) : V G X Th (pc) lv (.ref (gad G o) :: st) := by
  obtain ⟨p, l, e, R, s, m, args, below, meth, c, nc, ns, Q⟩ := X
  obtain ⟨hx, hb, hml, hown, hts, hK, hR, hcc, hss, -⟩ := C
  intro H locs ls h1 h2 h3 h4 h5
  obtain ⟨kc, ki, -, -, kn, k10⟩ := kx
  subst ho
  obtain ⟨q, hq70, hq⟩ := wsT_obj o (clsO_lt rfl k10)
  have hN : j < N := by rw [← kn]; exact (List.getElem?_eq_some_iff.mp hk).1
  exact va_get hx hb hts ki hown hK h2 q (ws_at G Th hq) kc j hN (hts _ hw) (fun x h => by rw [← hT]; exact h) (flds_get G Th o hk) hd (k H locs ls h1 h2 h3 h4 h5)

theorem v_getL1 {G : GT} {X : CX} {Th : TH} {pc : Nat} {lv : List (Nat × Value)} {st : List Value} {cc : ByteArray} {nL : Nat} {own : String} {rm : Room} {l0 : Launch} (C : CT G l0 X cc nL own rm) {index : Nat} (hw : Cond.fieldLink own index RX8 (TX8 1).2.1 (TX8 1).2.2.1 ∈ lw_g) (hd : decode cc pc = .ok (.getfield index, 3)) (k : clsO (Th 0 1 0).toNat = 3 → V G X Th (pc + 3) lv (.ref (gad G (Th 0 1 0).toNat) :: st)) : V G X Th (pc) lv (.ref (gad G 0) :: st) := by
  obtain ⟨p, l, e, R, s, m, args, below, meth, c, nc, ns, Q⟩ := X
  obtain ⟨hx, hb, hml, hown, hts, hK, hR, hcc, hss, -⟩ := C
  intro H locs ls h1 h2 h3 h4 h5
  obtain ⟨q, hq70, hq⟩ := wsT_obj 0 (by decide)
  exact va_get hx hb hts i_X8 hown hK h2 q (ws_at G Th hq) (ci := 8) rfl 1 (by decide) (hts _ hw) (fun x h => h) (flds_get G Th 0 (j := 1) (k := 2) rfl) hd (k (lOK_cls h1).1 H locs ls h1 h2 h3 h4 h5)

theorem v_getL2 {G : GT} {X : CX} {Th : TH} {pc : Nat} {lv : List (Nat × Value)} {st : List Value} {cc : ByteArray} {nL : Nat} {own : String} {rm : Room} {l0 : Launch} (C : CT G l0 X cc nL own rm) {index : Nat} (hw : Cond.fieldLink own index RX8 (TX8 2).2.1 (TX8 2).2.2.1 ∈ lw_g) (hd : decode cc pc = .ok (.getfield index, 3)) (k : clsO (Th 0 2 0).toNat = 3 → V G X Th (pc + 3) lv (.ref (gad G (Th 0 2 0).toNat) :: st)) : V G X Th (pc) lv (.ref (gad G 0) :: st) := by
  obtain ⟨p, l, e, R, s, m, args, below, meth, c, nc, ns, Q⟩ := X
  obtain ⟨hx, hb, hml, hown, hts, hK, hR, hcc, hss, -⟩ := C
  intro H locs ls h1 h2 h3 h4 h5
  obtain ⟨q, hq70, hq⟩ := wsT_obj 0 (by decide)
  exact va_get hx hb hts i_X8 hown hK h2 q (ws_at G Th hq) (ci := 8) rfl 2 (by decide) (hts _ hw) (fun x h => h) (flds_get G Th 0 (j := 2) (k := 2) rfl) hd (k (lOK_cls h1).2 H locs ls h1 h2 h3 h4 h5)

theorem v_putI {G : GT} {X : CX} {Th : TH} {pc : Nat} {lv : List (Nat × Value)} {st : List Value} {cc : ByteArray} {nL : Nat} {own : String} {rm : Room} {l0 : Launch} (C : CT G l0 X cc nL own rm) {ci : Nat} {Rc : String} {T : u_T} {N : Nat} {ty : Nat → FieldType} (kx : KX ci Rc T N ty) {o index : Nat} (j : Nat) (ho : clsO o = ci) {v : Int} (hk : (kdT ci)[j]? = some 0) (hw : Cond.fieldLink own index Rc (T j).2.1 (T j).2.2.1 ∈ lw_g) (hT : (T j).1 = Rc) (hf : (T j).2.2.2 = false) (hty : parseFieldDescriptor (T j).2.2.1 = some .int) (hd : decode cc pc = .ok (.putfield index, 3)) (k : V G X (up Th o j 0 v) (pc + 3) lv (st)) : V G X Th (pc) lv (.int (zI v) :: .ref (gad G o) :: st) := by
  obtain ⟨p, l, e, R, s, m, args, below, meth, c, nc, ns, Q⟩ := X
  obtain ⟨hx, hb, hml, hown, hts, hK, hR, hcc, hss, -⟩ := C
  intro H locs ls h1 h2 h3 h4 h5
  obtain ⟨kc, ki, kt, km, kn, k10⟩ := kx
  subst ho
  obtain ⟨q, hq70, hq⟩ := wsT_obj o (clsO_lt rfl k10)
  have hN : j < N := by rw [← kn]; exact (List.getElem?_eq_some_iff.mp hk).1
  refine va_put hx hb hts ki ty kt km hown hK h2 h3 h4 q (ws_at G Th hq) kc j hN (hts _ hw) (fun x h => by rw [← hT]; exact h) hf (ty := .int) hty rfl rfl (by unfold flds; rw [List.length_mapIdx]; exact (List.getElem?_eq_some_iff.mp hk).1) hd (fun H1 locs1 hP hD hS => ?_)
  rw [ws_putI G Th v hq70 hq hk] at hP hD
  exact k H1 locs1 ls (lOK_up h1 hk (by decide)) hP hD hS h5

theorem ar_lt {k j : Nat} {q : Nat × Nat} (h : arT k j = some q) : q.2 ≤ 2147483647 := (arL_kd _ (arT_mem h)).2
theorem ar_at {o j : Nat} {q : Nat × Nat} (h : arT (clsO o) j = some q) : ∃ k, k < 70 ∧ wsT[k]? = some (o, j + 1) := wsT_arr _ (arT_mem h) o (arT_cls h) rfl
theorem cel_ar (G : GT) (Th : TH) {o j : Nat} {q : Nat × Nat} (h : arT (clsO o) j = some q) : cel G Th (o, j + 1) = (gaa G o j, arC G Th o j q) := by
  show (gaa G o j, arC G Th o j ((arT (clsO o) j).getD (0, 0))) = _
  rw [h]
  rfl
theorem toNat_cast {i : Int} (h : 0 ≤ i) : ((i.toNat : Nat) : Int) = i := Int.toNat_of_nonneg h

theorem v_iald {G : GT} {X : CX} {Th : TH} {pc : Nat} {lv : List (Nat × Value)} {st : List Value} {cc : ByteArray} {nL : Nat} {own : String} {rm : Room} {l0 : Launch} (C : CT G l0 X cc nL own rm) {o j : Nat} {n : Nat} {i : Int} (ha : arT (clsO o) j = some (0, n)) (hd : decode cc pc = .ok (.iaload, 1)) (h0 : 0 ≤ i) (hn : i < n) (k : V G X Th (pc + 1) lv (Value.int (zI (Th o j i)) :: st)) : V G X Th (pc) lv (.int (zI i) :: .ref (gaa G o j) :: st) := by
  obtain ⟨p, l, e, R, s, m, args, below, meth, c, nc, ns, Q⟩ := X
  obtain ⟨hx, hb, hml, hown, hts, hK, hR, hcc, hss, -⟩ := C
  intro H locs ls h1 h2 h3 h4 h5
  obtain ⟨q, hq70, hq⟩ := ar_at ha
  have hc := ws_at G Th hq
  rw [cel_ar G Th ha] at hc
  obtain ⟨z1, z2⟩ := zI_in h0 hn (ar_lt ha)
  refine va_iald hx hb hK h2 q 0 hc rfl z1 hd ?_
  have k := (k H locs ls h1 h2 h3 h4 h5)
  rw [z2]
  show W p l e R s m args below meth c H locs nc ns Q (F0 m (pc + 1) ls (Value.int (zI (Th o j ((i.toNat : Nat) : Int))) :: st))
  rw [toNat_cast h0]
  exact k

theorem v_lald {G : GT} {X : CX} {Th : TH} {pc : Nat} {lv : List (Nat × Value)} {st : List Value} {cc : ByteArray} {nL : Nat} {own : String} {rm : Room} {l0 : Launch} (C : CT G l0 X cc nL own rm) {o j : Nat} {n : Nat} {i : Int} (ha : arT (clsO o) j = some (1, n)) (hd : decode cc pc = .ok (.laload, 1)) (h0 : 0 ≤ i) (hn : i < n) (k : V G X Th (pc + 1) lv (Value.long (zJ (Th o j i)) :: st)) : V G X Th (pc) lv (.int (zI i) :: .ref (gaa G o j) :: st) := by
  obtain ⟨p, l, e, R, s, m, args, below, meth, c, nc, ns, Q⟩ := X
  obtain ⟨hx, hb, hml, hown, hts, hK, hR, hcc, hss, -⟩ := C
  intro H locs ls h1 h2 h3 h4 h5
  obtain ⟨q, hq70, hq⟩ := ar_at ha
  have hc := ws_at G Th hq
  rw [cel_ar G Th ha] at hc
  obtain ⟨z1, z2⟩ := zI_in h0 hn (ar_lt ha)
  refine va_lald hx hb hK h2 q 1 hc rfl z1 hd ?_
  have k := (k H locs ls h1 h2 h3 h4 h5)
  rw [z2]
  show W p l e R s m args below meth c H locs nc ns Q (F0 m (pc + 1) ls (Value.long (zJ (Th o j ((i.toNat : Nat) : Int))) :: st))
  rw [toNat_cast h0]
  exact k

theorem v_zald {G : GT} {X : CX} {Th : TH} {pc : Nat} {lv : List (Nat × Value)} {st : List Value} {cc : ByteArray} {nL : Nat} {own : String} {rm : Room} {l0 : Launch} (C : CT G l0 X cc nL own rm) {o j : Nat} {n : Nat} {i : Int} (ha : arT (clsO o) j = some (2, n)) (hd : decode cc pc = .ok (.baload, 1)) (h0 : 0 ≤ i) (hn : i < n) (k : V G X Th (pc + 1) lv (Value.int (zI (Th o j i)) :: st)) : V G X Th (pc) lv (.int (zI i) :: .ref (gaa G o j) :: st) := by
  obtain ⟨p, l, e, R, s, m, args, below, meth, c, nc, ns, Q⟩ := X
  obtain ⟨hx, hb, hml, hown, hts, hK, hR, hcc, hss, -⟩ := C
  intro H locs ls h1 h2 h3 h4 h5
  obtain ⟨q, hq70, hq⟩ := ar_at ha
  have hc := ws_at G Th hq
  rw [cel_ar G Th ha] at hc
  obtain ⟨z1, z2⟩ := zI_in h0 hn (ar_lt ha)
  refine va_zald hx hb hK h2 q 2 hc rfl z1 hd ?_
  have k := (k H locs ls h1 h2 h3 h4 h5)
  rw [z2]
  show W p l e R s m args below meth c H locs nc ns Q (F0 m (pc + 1) ls (Value.int (zI (Th o j ((i.toNat : Nat) : Int))) :: st))
  rw [toNat_cast h0]
  exact k

theorem v_aald {G : GT} {X : CX} {Th : TH} {pc : Nat} {lv : List (Nat × Value)} {st : List Value} {cc : ByteArray} {nL : Nat} {own : String} {rm : Room} {l0 : Launch} (C : CT G l0 X cc nL own rm) {i : Int} (hd : decode cc pc = .ok (.aaload, 1)) (h0 : 0 ≤ i) (hn : i < 2) (k : clsO (6 + i.toNat) = 2 → V G X Th (pc + 1) lv (.ref (gad G (6 + i.toNat)) :: st)) : V G X Th (pc) lv (.int (zI i) :: .ref (gaa G 0 5) :: st) := by
  obtain ⟨p, l, e, R, s, m, args, below, meth, c, nc, ns, Q⟩ := X
  obtain ⟨hx, hb, hml, hown, hts, hK, hR, hcc, hss, -⟩ := C
  intro H locs ls h1 h2 h3 h4 h5
  have ha : arT (clsO 0) 5 = some (3, 2) := rfl
  obtain ⟨q, hq70, hq⟩ := ar_at ha
  have hc := ws_at G Th hq
  rw [cel_ar G Th ha] at hc
  obtain ⟨z1, z2⟩ := zI_in (n := 2) h0 hn (by decide)
  refine va_aldq hx hb hK h2 q 3 hc rfl z1 hd ?_
  have hcl : clsO (6 + i.toNat) = 2 := by
    rcases (show i = 0 ∨ i = 1 by omega) with rfl | rfl <;> rfl
  have k := k hcl H locs ls h1 h2 h3 h4 h5
  rw [z2]
  rcases (show i = 0 ∨ i = 1 by omega) with rfl | rfl <;> exact k

theorem v_iast {G : GT} {X : CX} {Th : TH} {pc : Nat} {lv : List (Nat × Value)} {st : List Value} {cc : ByteArray} {nL : Nat} {own : String} {rm : Room} {l0 : Launch} (C : CT G l0 X cc nL own rm) {o j : Nat} {n : Nat} {i v : Int} (ha : arT (clsO o) j = some (0, n)) (hd : decode cc pc = .ok (.iastore, 1)) (h0 : 0 ≤ i) (hn : i < n) (k : V G X (up Th o j i v) (pc + 1) lv (st)) : V G X Th (pc) lv (.int (zI v) :: .int (zI i) :: .ref (gaa G o j) :: st) := by
  obtain ⟨p, l, e, R, s, m, args, below, meth, c, nc, ns, Q⟩ := X
  obtain ⟨hx, hb, hml, hown, hts, hK, hR, hcc, hss, -⟩ := C
  intro H locs ls h1 h2 h3 h4 h5
  obtain ⟨q, hq70, hq⟩ := ar_at ha
  have hc := ws_at G Th hq
  rw [cel_ar G Th ha] at hc
  obtain ⟨z1, z2⟩ := zI_in h0 hn (ar_lt ha)
  refine va_iast hx hb hK h2 h3 h4 q 0 hc rfl z1 hd (fun H1 locs1 hP hD hS => ?_)
  rw [z2] at hP hD
  have he : (Sum.inl (gcA G 0, n, .inl (upd (fun x => zI (Th o j x)) i.toNat (zI v)))) = arC G (up Th o j i v) o j (0, n) := by
    show _ = Sum.inl _
    refine congrArg (fun f => (Sum.inl (gcA G 0, n, .inl f) : va_E)) (funext fun x => ?_)
    unfold upd
    by_cases hx9 : x = i.toNat
    · subst hx9
      rw [if_pos rfl, toNat_cast h0, up_eq]
    · rw [if_neg hx9, up_ne (fun z => hx9 (by have := z.2.2; omega))]
  rw [he] at hP hD
  rw [ws_putA G Th (up Th o j i v) hq70 hq ha (fun o' j' i' hn' => up_ne (fun z => hn' ⟨z.1, z.2.1⟩))] at hP hD
  exact k H1 locs1 ls (lOK_up h1 (arL_kd _ (arT_mem ha)).1 (by decide)) hP hD hS h5

theorem v_last {G : GT} {X : CX} {Th : TH} {pc : Nat} {lv : List (Nat × Value)} {st : List Value} {cc : ByteArray} {nL : Nat} {own : String} {rm : Room} {l0 : Launch} (C : CT G l0 X cc nL own rm) {o j : Nat} {n : Nat} {i v : Int} (ha : arT (clsO o) j = some (1, n)) (hd : decode cc pc = .ok (.lastore, 1)) (h0 : 0 ≤ i) (hn : i < n) (k : V G X (up Th o j i v) (pc + 1) lv (st)) : V G X Th (pc) lv (.long (zJ v) :: .int (zI i) :: .ref (gaa G o j) :: st) := by
  obtain ⟨p, l, e, R, s, m, args, below, meth, c, nc, ns, Q⟩ := X
  obtain ⟨hx, hb, hml, hown, hts, hK, hR, hcc, hss, -⟩ := C
  intro H locs ls h1 h2 h3 h4 h5
  obtain ⟨q, hq70, hq⟩ := ar_at ha
  have hc := ws_at G Th hq
  rw [cel_ar G Th ha] at hc
  obtain ⟨z1, z2⟩ := zI_in h0 hn (ar_lt ha)
  refine va_last hx hb hK h2 h3 h4 q 1 hc rfl z1 hd (fun H1 locs1 hP hD hS => ?_)
  rw [z2] at hP hD
  have he : (Sum.inl (gcA G 1, n, .inr (.inl (vp_updL (fun x => zJ (Th o j x)) i.toNat (zJ v))))) = arC G (up Th o j i v) o j (1, n) := by
    show _ = Sum.inl _
    refine congrArg (fun f => (Sum.inl (gcA G 1, n, .inr (.inl f)) : va_E)) (funext fun x => ?_)
    unfold vp_updL
    by_cases hx9 : x = i.toNat
    · subst hx9
      rw [if_pos rfl, toNat_cast h0, up_eq]
    · rw [if_neg hx9, up_ne (fun z => hx9 (by have := z.2.2; omega))]
  rw [he] at hP hD
  rw [ws_putA G Th (up Th o j i v) hq70 hq ha (fun o' j' i' hn' => up_ne (fun z => hn' ⟨z.1, z.2.1⟩))] at hP hD
  exact k H1 locs1 ls (lOK_up h1 (arL_kd _ (arT_mem ha)).1 (by decide)) hP hD hS h5

theorem v_zast {G : GT} {X : CX} {Th : TH} {pc : Nat} {lv : List (Nat × Value)} {st : List Value} {cc : ByteArray} {nL : Nat} {own : String} {rm : Room} {l0 : Launch} (C : CT G l0 X cc nL own rm) {o j : Nat} {n : Nat} {i v : Int} (ha : arT (clsO o) j = some (2, n)) (hz : vp_nar .boolean (zI v) = zI v) (hd : decode cc pc = .ok (.bastore, 1)) (h0 : 0 ≤ i) (hn : i < n) (k : V G X (up Th o j i v) (pc + 1) lv (st)) : V G X Th (pc) lv (.int (zI v) :: .int (zI i) :: .ref (gaa G o j) :: st) := by
  obtain ⟨p, l, e, R, s, m, args, below, meth, c, nc, ns, Q⟩ := X
  obtain ⟨hx, hb, hml, hown, hts, hK, hR, hcc, hss, -⟩ := C
  intro H locs ls h1 h2 h3 h4 h5
  obtain ⟨q, hq70, hq⟩ := ar_at ha
  have hc := ws_at G Th hq
  rw [cel_ar G Th ha] at hc
  obtain ⟨z1, z2⟩ := zI_in h0 hn (ar_lt ha)
  refine va_zast hx hb hK h2 h3 h4 q 2 hc rfl z1 hd (fun H1 locs1 hP hD hS => ?_)
  rw [z2] at hP hD
  have he : (Sum.inl (gcA G 2, n, .inl (upd (fun x => zI (Th o j x)) i.toNat (vp_nar .boolean (zI v))))) = arC G (up Th o j i v) o j (2, n) := by
    show _ = Sum.inl _
    refine congrArg (fun f => (Sum.inl (gcA G 2, n, .inl f) : va_E)) (funext fun x => ?_)
    unfold upd
    by_cases hx9 : x = i.toNat
    · subst hx9
      rw [if_pos rfl, toNat_cast h0, up_eq]
      exact hz
    · rw [if_neg hx9, up_ne (fun z => hx9 (by have := z.2.2; omega))]
  rw [he] at hP hD
  rw [ws_putA G Th (up Th o j i v) hq70 hq ha (fun o' j' i' hn' => up_ne (fun z => hn' ⟨z.1, z.2.1⟩))] at hP hD
  exact k H1 locs1 ls (lOK_up h1 (arL_kd _ (arT_mem ha)).1 (by decide)) hP hD hS h5

theorem v_alen {G : GT} {X : CX} {Th : TH} {pc : Nat} {lv : List (Nat × Value)} {st : List Value} {cc : ByteArray} {nL : Nat} {own : String} {rm : Room} {l0 : Launch} (C : CT G l0 X cc nL own rm) {o j t n : Nat} (ha : arT (clsO o) j = some (t, n)) (ht : t < 3) (hd : decode cc pc = .ok (.arraylength, 1)) (k : V G X Th (pc + 1) lv (.int (zI n) :: st)) : V G X Th (pc) lv (.ref (gaa G o j) :: st) := by
  obtain ⟨p, l, e, R, s, m, args, below, meth, c, nc, ns, Q⟩ := X
  obtain ⟨hx, hb, hml, hown, hts, hK, hR, hcc, hss, -⟩ := C
  intro H locs ls h1 h2 h3 h4 h5
  obtain ⟨q, hq70, hq⟩ := ar_at ha
  have hc := ws_at G Th hq
  rw [cel_ar G Th ha] at hc
  rcases (show t = 0 ∨ t = 1 ∨ t = 2 by omega) with rfl | rfl | rfl
  · exact va_alen hx hb hK h2 q 0 hc (ty := .int) rfl rfl hd (k H locs ls h1 h2 h3 h4 h5)
  · exact va_alen hx hb hK h2 q 1 hc (ty := .long) rfl rfl hd (k H locs ls h1 h2 h3 h4 h5)
  · exact va_alen hx hb hK h2 q 2 hc (ty := .boolean) rfl rfl hd (k H locs ls h1 h2 h3 h4 h5)

