/-- what holds at the law's entry: the machine, the code, the tables' words (any of lw_tbl by 'hts w (by decide +kernel)'), the script of L ints xs at the cell b, what the Statement gives of the start (any of its parts by flat_of_before) -/
def lw_At (p : Program) (s : State) (m : MethodId) (meth : Method) (c : Code) (b L : Nat) (xs : Nat → Int32) : Prop :=
  p.tables.exec = Jvm.exec ∧ c.code = code ∧ meth.sig.returnType = ret ∧ c.maxLocals = 4 ∧ s.vm.findClass R_law = some m.cls ∧ (∀ w ∈ lw_tbl, w.before #[Value.ref b] s = true) ∧ va_X b L xs s s.heap ∧ b < s.heap.size ∧ meth.locks = false ∧ (Jvm.Cond.and given_1 narrow_1).before #[Value.ref b] s = true
set_option maxRecDepth 100000 in
theorem wd_75 : (.classLink RL 7 RX8 : Cond) ∈ lw_g := mg (List.mem_of_getElem? (i := 75) rfl) rfl
set_option maxRecDepth 100000 in
theorem wd_76 : (.instantiable RX8 12 : Cond) ∈ lw_g := mg (List.mem_of_getElem? (i := 76) rfl) rfl
set_option maxRecDepth 100000 in
theorem wd_77 : (.methodLink RL 9 yX8_init : Cond) ∈ lw_g := mg (List.mem_of_getElem? (i := 77) rfl) rfl
set_option maxRecDepth 100000 in
theorem wd_78 : (.instanceMethod yX8_init : Cond) ∈ lw_g := mg (List.mem_of_getElem? (i := 78) rfl) rfl
set_option maxRecDepth 100000 in
theorem wd_79 : (.code yX8_init cX8_init 1 none : Cond) ∈ lw_g := mg (List.mem_of_getElem? (i := 79) rfl) rfl
set_option maxRecDepth 100000 in
theorem wd_806 : (.classLink RL 10 RX9 : Cond) ∈ lw_g := mg (List.mem_of_getElem? (i := 806) rfl) rfl
set_option maxRecDepth 100000 in
theorem wd_807 : (.instantiable RX9 38 : Cond) ∈ lw_g := mg (List.mem_of_getElem? (i := 807) rfl) rfl
set_option maxRecDepth 100000 in
theorem wd_808 : (.methodLink RL 12 yX9_init : Cond) ∈ lw_g := mg (List.mem_of_getElem? (i := 808) rfl) rfl
set_option maxRecDepth 100000 in
theorem wd_809 : (.instanceMethod yX9_init : Cond) ∈ lw_g := mg (List.mem_of_getElem? (i := 809) rfl) rfl
set_option maxRecDepth 100000 in
theorem wd_810 : (.code yX9_init cX9_init 1 none : Cond) ∈ lw_g := mg (List.mem_of_getElem? (i := 810) rfl) rfl
theorem nest_tab : ∀ w ∈ nestL, w.onTables = true := by decide +kernel
set_option maxRecDepth 100000 in
theorem nest_in : ∀ w ∈ nestL, w ∈ lw_tbl := by
  simp only [nestL, List.forall_mem_cons]
  exact ⟨List.mem_of_getElem? (i := 85) rfl, List.mem_of_getElem? (i := 113) rfl, List.mem_of_getElem? (i := 209) rfl, List.mem_of_getElem? (i := 235) rfl, List.mem_of_getElem? (i := 252) rfl, List.mem_of_getElem? (i := 269) rfl, List.mem_of_getElem? (i := 285) rfl, List.mem_of_getElem? (i := 304) rfl, fun _ h => absurd h List.not_mem_nil⟩
theorem nest_warm : ∀ w ∈ nestL, ∀ {s U : State}, s.WarmedH U.vm → va_Nw w s → va_Nw w U := by
  simp only [nestL, List.forall_mem_cons]
  exact ⟨fun hW h => va_Nw.warmM hW h, fun hW h => va_Nw.warmM hW h, fun hW h => va_Nw.warmM hW h, fun hW h => va_Nw.warmM hW h, fun hW h => va_Nw.warmM hW h, fun hW h => va_Nw.warmM hW h, fun hW h => va_Nw.warmM hW h, fun hW h => va_Nw.warmM hW h, fun _ h => absurd h List.not_mem_nil⟩
/-- a constructor that anybody may call -/
theorem u_callI {D : va_G} {tys : List (ClassId × FieldType)} {A : Nat → Prop} {l0 : Launch} {X : CX} {cc : ByteArray} {nL : Nat} {own : String} {rm : Room} {ws : va_W} {nc ns pc : Nat} {lv : List (Nat × Value)} {st : List Value} (C : CU D tys A l0 X cc nL own rm) {y : MethodName} {bytes : ByteArray} {f mc ms n b index : Nat} {S : Type} {B : S → State → Prop} {Ex : State → Prop} (hM : MU D tys A l0 y bytes f mc ms n b ws Ex B) (hb1 : ∀ (U : State) (g : JFrame) (mk : MethodId) (a : Array Value), Ex U → Ex (U.calling g mk a)) (hb2 : match X with | (_, _, _, _, s, _, _, _, _, _, _, _, _) => ∀ U : State, s.WarmedH U.vm → Ex U) (w0 : Cond.methodLink own index y ∈ lw_g) (w1 : Cond.instanceMethod y ∈ lw_g) (w2 : Cond.initialized y.cls ∈ lw_g) (w3 : Cond.code y bytes 1 none ∈ lw_g) (hy : y.name = "<init>") (hdd : y.cls ≠ "java/lang/invoke/MethodHandle" ∧ y.cls ≠ "java/lang/invoke/VarHandle" ∧ (parseMethodDescriptor y.desc).map (fun d => d.parameters.length) = some 0) (hr : f + 1 ≤ rm.frames ∧ 8 + (1 + 11) + n ≤ rm.locals) (hW : (st.map fun v => v.category).sum ≤ 8) (hd : decode cc pc = .ok (.invokespecial index, 3)) (hf : nc + mc ≤ rm.cells ∧ ns + ms ≤ rm.slots)
    (k : ∀ (u : S) (t : State), B u t → ∃ ws', PW D tys A ws' t ∧ UC D A X ws' (nc + mc) (ns + ms) (pc + 3) lv st) : UC D A X ws nc ns pc lv (.ref b :: st) := by
  obtain ⟨p, l, e, R, s, m, args, below, meth, c, nc0, ns0, Q⟩ := X
  obtain ⟨hx, hb, hml, hown, hts, hK, hR, hl0, hA⟩ := C
  intro H locs ls h2 h3 h4 h5
  subst hR hl0
  refine va_callv (va_runI (As := []) (rest := st) ⟨hx, hb, rfl, hown, hts⟩ hM (cwI 0 hts (tbl_goodIn (ws := []) w3 (fun x h => by cases h)) rfl rfl rfl (hts _ w2) (hts _ w0) (hts _ w1) hy hdd hr) ⟨fun a U g mk q => by
      obtain ⟨q0, ⟨q1, q2, q3, q4⟩, q5⟩ := q
      exact ⟨q0, ⟨q1, va_K.moved (u := U) (U := U.calling g mk a) (Vm.Alike.refl U.vm) q2, q3, q4⟩, hb1 U g mk a q5⟩, fun U hU hW => ⟨rfl, ⟨by rw [hU]; exact h2, va_K.moved hW.alike hK, h3, fun q hq => hA q (by rw [hU] at hq; exact Nat.le_trans h4.1 hq)⟩, hb2 U hW⟩⟩ rfl rfl h5.1 rfl (lv_room hW) hd hf) h4 (fun _ _ h => h) (fun _ h => h) (fun u t H1 locs1 ht hvm hp hB hz hk hS => ?_)
  obtain ⟨ws', g1, g2⟩ := k u t hB
  obtain ⟨r1, r2, r3, r4⟩ := g1
  rw [ht] at r1
  exact g2 H1 locs1 ls r1 r3 hS h5
theorem k_all {s : State} {args : Array Value} (hts : ∀ w ∈ lw_g, w.before args s = true) : ∃ D : va_G, ∀ (c : Nat) (q : vw_C), vwCl[c]? = some q → u_Kn s q.1 q.2.1 q.2.2 (D.1 c) (D.2 c) := by
  have hk : ∀ c : Nat, ∃ r : ClassId × (Nat → Nat), ∀ q : vw_C, vwCl[c]? = some q → u_Kn s q.1 q.2.1 q.2.2 r.1 r.2 := by
    intro c
    match c with
    | 0 =>
      obtain ⟨cC, iS, h⟩ := u_known (C := RX0) (T := TX0) (N := 4) (n := 4) hts i_X0 (hts _ wd_284)
      exact ⟨(cC, iS), fun q hq => by cases hq; exact h⟩
    | 1 =>
      obtain ⟨cC, iS, h⟩ := u_known (C := RX1) (T := TX1) (N := 3) (n := 3) hts i_X1 (hts _ wd_251)
      exact ⟨(cC, iS), fun q hq => by cases hq; exact h⟩
    | 2 =>
      obtain ⟨cC, iS, h⟩ := u_known (C := RX2) (T := TX2) (N := 5) (n := 5) hts i_X2 (hts _ wd_208)
      exact ⟨(cC, iS), fun q hq => by cases hq; exact h⟩
    | 3 =>
      obtain ⟨cC, iS, h⟩ := u_known (C := RX3) (T := TX3) (N := 16) (n := 16) hts i_X3 (hts _ wd_112)
      exact ⟨(cC, iS), fun q hq => by cases hq; exact h⟩
    | 4 =>
      obtain ⟨cC, iS, h⟩ := u_known (C := RX4) (T := TX4) (N := 6) (n := 6) hts i_X4 (hts _ wd_84)
      exact ⟨(cC, iS), fun q hq => by cases hq; exact h⟩
    | 5 =>
      obtain ⟨cC, iS, h⟩ := u_known (C := RX5) (T := TX5) (N := 2) (n := 2) hts i_X5 (hts _ wd_303)
      exact ⟨(cC, iS), fun q hq => by cases hq; exact h⟩
    | 6 =>
      obtain ⟨cC, iS, h⟩ := u_known (C := RX6) (T := TX6) (N := 3) (n := 3) hts i_X6 (hts _ wd_234)
      exact ⟨(cC, iS), fun q hq => by cases hq; exact h⟩
    | 7 =>
      obtain ⟨cC, iS, h⟩ := u_known (C := RX7) (T := TX7) (N := 3) (n := 3) hts i_X7 (hts _ wd_268)
      exact ⟨(cC, iS), fun q hq => by cases hq; exact h⟩
    | 8 =>
      obtain ⟨cC, iS, h⟩ := u_known (C := RX8) (T := TX8) (N := 12) (n := 12) hts i_X8 (hts _ wd_76)
      exact ⟨(cC, iS), fun q hq => by cases hq; exact h⟩
    | 9 =>
      obtain ⟨cC, iS, h⟩ := u_known (C := RX9) (T := TX9) (N := 38) (n := 38) hts i_X9 (hts _ wd_807)
      exact ⟨(cC, iS), fun q hq => by cases hq; exact h⟩
    | n + 10 => exact ⟨(0, fun _ => 0), fun q hq => by simp [vwCl] at hq⟩
  exact ⟨(fun c => (Classical.choose (hk c)).1, fun c => (Classical.choose (hk c)).2), fun c q hq => Classical.choose_spec (hk c) q hq⟩
theorem k_arr {s : State} {args : Array Value} {ty : FieldType} (h : (Cond.arrayClass ty).before args s = true) (hp : ∀ C, ty ≠ .object C) : ∃ cA : ClassId, ArrOfT s cA ty ∧ va_RA s cA ty := by
  obtain ⟨c, k, comp, h1, h2, h3⟩ := Cond.arrayClass_spec h
  refine ⟨c, fun n z => ⟨fun k h => (by cases h), k, h2, comp, h3⟩, ?_⟩
  unfold va_RA
  cases ty with
  | object C => exact absurd rfl (hp C)
  | _ => exact h1
theorem k_arrH {s : State} {n : String} (h : va_AO n s) : ∃ cA : ClassId, ArrOfT s cA (.object n) ∧ va_RA s cA (.object n) := by
  obtain ⟨comp, c, k, h1, h2, h3, h4, h5⟩ := Cond.arrayOver_spec h
  exact ⟨c, fun n z => ⟨fun k h => (by cases h), k, h3, comp, h4⟩, k, comp, h3, h4, h1, h5⟩
def cAt (cI cJ cZ cH : ClassId) (k : Nat) : ClassId := match k with
  | 0 => cI
  | 1 => cJ
  | 2 => cZ
  | _ => cH
/-- the law, from its entry, if its loop goes through from what begin makes -/
theorem whole_open {P : TH → Prop} (hbeg : wp_X9_begin T0 P) {p : Program} {e : Env} {s : State} {m : MethodId} {below : List Frame} {meth : Method} {c : Code} (l : Launch) {b L : Nat} {xs : Nat → Int32} (hL : L ≤ 2560) (C0 : lw_At p s m meth c b L xs) (hloop : ∀ T, P T → ∃ n, h_L_law_18 L xs n 0 T) : W p l e room_1 s m #[Value.ref b] below meth c s.heap [] 0 0 (lw_Z below #[Value.ref b] s) (entryFrame m ([Value.ref b] : List Value).toArray 4) := by
  obtain ⟨hx, hb, hr, hml, hown, hts0, hX, hbl, hlocks, hgv⟩ := id C0
  have hts : ∀ w ∈ lw_g, w.before #[Value.ref b] s = true := fun w h => hts0 w (lw_g_sub h)
  obtain ⟨D, hD⟩ := k_all hts
  have hAO : va_AO "KnownWeight$Heads" s := va_AO.of (hts0 _ (List.mem_of_getElem? (i := 232) rfl))
  obtain ⟨cI, i1, i2⟩ := k_arr (hts _ wd_110) (fun _ h => by cases h)
  obtain ⟨cJ, j1, j2⟩ := k_arr (hts _ wd_932) (fun _ h => by cases h)
  obtain ⟨cZ, z1, z2⟩ := k_arr (hts _ wd_931) (fun _ h => by cases h)
  obtain ⟨cH, g1, g2⟩ := k_arrH hAO
  obtain ⟨cA, hcA⟩ : ∃ cA : Nat → ClassId, cA = cAt cI cJ cZ cH := ⟨_, rfl⟩
  have hK : va_K D vwCl [(cA 0, .int), (cA 1, .long), (cA 2, .boolean), (cA 3, .object "KnownWeight$Heads")] s := by
    subst hcA
    refine ⟨hD, fun k q hq => ?_⟩
    match k, hq with
    | 0, hq => cases hq; exact ⟨i1, i2⟩
    | 1, hq => cases hq; exact ⟨j1, j2⟩
    | 2, hq => cases hq; exact ⟨z1, z2⟩
    | 3, hq => cases hq; exact ⟨g1, g2⟩
    | k + 4, hq => simp at hq
  obtain ⟨A, hA⟩ : ∃ A : Nat → Prop, A = fun q => s.heap.size ≤ q := ⟨_, rfl⟩
  have hAq : ∀ q, s.heap.size ≤ q → A q := fun q h => by rw [hA]; exact h
  have hAr : ∀ q, A q → s.heap.size ≤ q := fun q h => by rw [hA] at h; exact h
  have hl := lv_entry ([.ref b]) (n := 4) (Nat.le_of_ble_eq_true rfl)
  rw [lg_entry_eq]
  have C : CU D [(cA 0, .int), (cA 1, .long), (cA 2, .boolean), (cA 3, .object "KnownWeight$Heads")] A l (p, l, e, room_1, s, m, #[Value.ref b], below, meth, c, 70, 5328, lw_Z below #[Value.ref b] s) code 4 RL room_1 := ⟨hx, hb, hml, hown, hts, hK, rfl, rfl, hAq⟩
  have main : UC D A (p, l, e, room_1, s, m, #[Value.ref b], below, meth, c, 70, 5328, lw_Z below #[Value.ref b] s) [] 0 0 0 [(0, .ref b)] [] := by
    refine u_new C kX8 wd_75 wd_76 wd_61 (fs := [.null, .null, .null, .null, .null, .null, .int (zI 0), .null, .null, .null, .null, .null]) (fun j hj => by rcases (show j = 0 ∨ j = 1 ∨ j = 2 ∨ j = 3 ∨ j = 4 ∨ j = 5 ∨ j = 6 ∨ j = 7 ∨ j = 8 ∨ j = 9 ∨ j = 10 ∨ j = 11 by omega) with rfl | rfl | rfl | rfl | rfl | rfl | rfl | rfl | rfl | rfl | rfl | rfl <;> rfl) (by decide) (by decide) dL_law_0 (fun q0 => ?_)
    refine u_dup C dL_law_3 rfl ?_
    refine u_callI C (k_X8_init D cA A l q0) (fun U g mk a h => ⟨fun w hw => va_Nw.same (u := U) (U := U.calling g mk a) (nest_tab w hw) rfl (h.1 w hw), va_AO.moved (u := U) (U := U.calling g mk a) (Vm.Alike.refl U.vm) h.2⟩) (fun U hW => ⟨fun w hw => nest_warm w hw hW (va_Nw.of (nest_tab w hw) (hts0 w (nest_in w hw))), va_AO.moved hW.alike hAO⟩) wd_77 wd_78 wd_61 wd_79 rfl (by decide +kernel) ⟨by decide, by decide⟩ (Nat.le_of_ble_eq_true rfl) dL_law_4 ⟨by decide, by decide⟩ (fun u t hB => ?_)
    obtain ⟨ad, aa⟩ := u
    obtain ⟨hPW, had⟩ := hB
    have had : ad 0 = q0 := had
    subst had
    refine ⟨_, hPW, ?_⟩
    refine u_astore_n C dL_law_7 rfl (by decide) ?_
    refine u_new C kX9 wd_806 wd_807 wd_70 (fs := [.int (zI 0), .null, .int (zI 0), .int (zI 0), .int (zI 0), .int (zI 0), .int (zI 0), .int (zI 0), .int (zI 0), .int (zI 0), .null, .int (zI 0), .null, .int (zI 0), .int (zI 0), .null, .int (zI 0), .int (zI 0), .int (zI 0), .null, .int (zI 0), .null, .int (zI 0), .int (zI 0), .null, .int (zI 0), .null, .null, .null, .null, .null, .int (zI 0), .null, .null, .null, .null, .null, .null]) (fun j hj => by rcases (show j = 0 ∨ j = 1 ∨ j = 2 ∨ j = 3 ∨ j = 4 ∨ j = 5 ∨ j = 6 ∨ j = 7 ∨ j = 8 ∨ j = 9 ∨ j = 10 ∨ j = 11 ∨ j = 12 ∨ j = 13 ∨ j = 14 ∨ j = 15 ∨ j = 16 ∨ j = 17 ∨ j = 18 ∨ j = 19 ∨ j = 20 ∨ j = 21 ∨ j = 22 ∨ j = 23 ∨ j = 24 ∨ j = 25 ∨ j = 26 ∨ j = 27 ∨ j = 28 ∨ j = 29 ∨ j = 30 ∨ j = 31 ∨ j = 32 ∨ j = 33 ∨ j = 34 ∨ j = 35 ∨ j = 36 ∨ j = 37 by omega) with rfl | rfl | rfl | rfl | rfl | rfl | rfl | rfl | rfl | rfl | rfl | rfl | rfl | rfl | rfl | rfl | rfl | rfl | rfl | rfl | rfl | rfl | rfl | rfl | rfl | rfl | rfl | rfl | rfl | rfl | rfl | rfl | rfl | rfl | rfl | rfl | rfl | rfl <;> rfl) (by decide) (by decide) dL_law_8 (fun q1 => ?_)
    refine u_dup C dL_law_11 rfl ?_
    refine u_callI C (k_X9_init D cA A l ad aa q1 hbeg) (fun _ _ _ _ _ => trivial) (fun _ _ => trivial) wd_808 wd_809 wd_70 wd_810 rfl (by decide +kernel) ⟨by decide, by decide⟩ (Nat.le_of_ble_eq_true rfl) dL_law_12 ⟨by decide, by decide⟩ (fun u t hB => ?_)
    obtain ⟨ad1, aa1, T1⟩ := u
    obtain ⟨⟨w1, w2, w3, w4⟩, hA1, hP1, e1, e2⟩ := hB
    have e1 : ad1 13 = q1 := e1
    have e2 : ad1 0 = ad 0 := e2
    subst e1
    refine ⟨wsG (gOf D cA A ad1 aa1) T1, ⟨w2, w3, w4, hA1⟩, ?_⟩
    refine u_astore_n C dL_law_15 rfl (by decide) ?_
    refine u_ofV w1 ?_
    have CV : CT (gOf D cA A ad1 aa1) l (p, l, e, room_1, s, m, #[Value.ref b], below, meth, c, 70, 5328, lw_Z below #[Value.ref b] s) cL_law 4 RL room_1 := ⟨hx, hb, hml, hown, hts, hK, rfl, by decide, by decide, rfl⟩
    have EV : EL (gOf D cA A ad1 aa1) (p, l, e, room_1, s, m, #[Value.ref b], below, meth, c, 70, 5328, lw_Z below #[Value.ref b] s) b := ⟨rfl, hr, hlocks, rfl, rfl, rfl, hAr, rfl⟩
    have SV : SX (gOf D cA A ad1 aa1) (p, l, e, room_1, s, m, #[Value.ref b], below, meth, c, 70, 5328, lw_Z below #[Value.ref b] s) b L xs := ⟨hX, hbl, fun h => by have := hAr b h; omega, hL⟩
    refine v_iconst CV dL_law_16 ?_
    refine v_istore_n CV dL_law_17 rfl (by decide) ?_
    obtain ⟨n, hn⟩ := hloop T1 hP1
    have k := t_L_law_18 CV EV SV n 0 T1 hn
    refine v_sub (lv' := [(0, .ref b), (1, .ref (gad (gOf D cA A ad1 aa1) 0)), (2, .ref (gad (gOf D cA A ad1 aa1) 13)), (3, .int (zI 0))]) [3, 2, 1, 0] ?_ k
    show [(0, Value.ref b), (1, Value.ref (ad 0)), (2, Value.ref (ad1 13)), (3, Value.int (zI 0))] = [(0, Value.ref b), (1, Value.ref (ad1 0)), (2, Value.ref (ad1 13)), (3, Value.int (zI 0))]
    rw [e2]
  exact main s.heap [] _ (fun k q h => by simp at h) ⟨fun i j p q h => by simp at h, fun k q h => by simp at h⟩ va_S.rf (by rw [hml]; exact hl)
