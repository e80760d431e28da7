/-- the law, from its entry -/
theorem whole_start {p : Program} {e : Env} {s : State} {m : MethodId} {below : List Frame} {meth : Method} {c : Code} (l : Launch) {b L : Nat} {xs : Nat → Int32} (hL : L ≤ 2560) (C0 : lw_At p s m meth c b L xs) : W p l e room_1 s m #[Value.ref b] below meth c s.heap [] 0 0 (lw_Z below #[Value.ref b] s) (entryFrame m ([Value.ref b] : List Value).toArray 4) := by
  obtain ⟨hx, hb, hr, hml, hown, hts0, hX, hbl, hlocks, hgv⟩ := id C0
  have hts : ∀ w ∈ lw_g, w.before #[Value.ref b] s = true := fun w h => hts0 w (lw_g_sub h)
  obtain ⟨D, hD⟩ := k_all hts
  have hAO : va_AO "KnownWeight$Heads" s := va_AO.of (hts0 _ (List.mem_of_getElem? (i := 232) rfl))
  obtain ⟨cI, i1, i2⟩ := k_arr (hts _ wd_110) (fun _ h => by cases h)
  obtain ⟨cJ, j1, j2⟩ := k_arr (hts _ wd_932) (fun _ h => by cases h)
  obtain ⟨cZ, z1, z2⟩ := k_arr (hts _ wd_931) (fun _ h => by cases h)
  obtain ⟨cH, g1, g2⟩ := k_arrH hAO
  obtain ⟨cA, hcA⟩ : ∃ cA : Nat → ClassId, cA = cAt cI cJ cZ cH := ⟨_, rfl⟩
  have hK : va_K D vwCl [(cA 0, .int), (cA 1, .long), (cA 2, .boolean), (cA 3, .object "KnownWeight$Heads")] s := by
    subst hcA
    refine ⟨hD, fun k q hq => ?_⟩
    match k, hq with
    | 0, hq => cases hq; exact ⟨i1, i2⟩
    | 1, hq => cases hq; exact ⟨j1, j2⟩
    | 2, hq => cases hq; exact ⟨z1, z2⟩
    | 3, hq => cases hq; exact ⟨g1, g2⟩
    | k + 4, hq => simp at hq
  obtain ⟨A, hA⟩ : ∃ A : Nat → Prop, A = fun q => s.heap.size ≤ q := ⟨_, rfl⟩
  have hAq : ∀ q, s.heap.size ≤ q → A q := fun q h => by rw [hA]; exact h
  have hAr : ∀ q, A q → s.heap.size ≤ q := fun q h => by rw [hA] at h; exact h
  have hl := lv_entry ([.ref b]) (n := 4) (Nat.le_of_ble_eq_true rfl)
  rw [lg_entry_eq]
  have C : CU D [(cA 0, .int), (cA 1, .long), (cA 2, .boolean), (cA 3, .object "KnownWeight$Heads")] A l (p, l, e, room_1, s, m, #[Value.ref b], below, meth, c, 70, 5328, lw_Z below #[Value.ref b] s) code 4 RL room_1 := ⟨hx, hb, hml, hown, hts, hK, rfl, rfl, hAq⟩
  have main : UC D A (p, l, e, room_1, s, m, #[Value.ref b], below, meth, c, 70, 5328, lw_Z below #[Value.ref b] s) [] 0 0 0 [(0, .ref b)] [] := by
    refine u_new C kX8 wd_75 wd_76 wd_61 (fs := [.null, .null, .null, .null, .null, .null, .int (zI 0), .null, .null, .null, .null, .null]) (fun j hj => by rcases (show j = 0 ∨ j = 1 ∨ j = 2 ∨ j = 3 ∨ j = 4 ∨ j = 5 ∨ j = 6 ∨ j = 7 ∨ j = 8 ∨ j = 9 ∨ j = 10 ∨ j = 11 by omega) with rfl | rfl | rfl | rfl | rfl | rfl | rfl | rfl | rfl | rfl | rfl | rfl <;> rfl) (by decide) (by decide) dL_law_0 (fun q0 => ?_)
    refine u_dup C dL_law_3 rfl ?_
    refine u_callI C (k_X8_init D cA A l q0) (fun U g mk a h => ⟨fun w hw => va_Nw.same (u := U) (U := U.calling g mk a) (nest_tab w hw) rfl (h.1 w hw), va_AO.moved (u := U) (U := U.calling g mk a) (Vm.Alike.refl U.vm) h.2⟩) (fun U hW => ⟨fun w hw => nest_warm w hw hW (va_Nw.of (nest_tab w hw) (hts0 w (nest_in w hw))), va_AO.moved hW.alike hAO⟩) wd_77 wd_78 wd_61 wd_79 rfl (by decide +kernel) ⟨by decide, by decide⟩ (Nat.le_of_ble_eq_true rfl) dL_law_4 ⟨by decide, by decide⟩ (fun u t hB => ?_)
    obtain ⟨ad, aa⟩ := u
    obtain ⟨hPW, had⟩ := hB
    have had : ad 0 = q0 := had
    subst had
    refine ⟨_, hPW, ?_⟩
    refine u_astore_n C dL_law_7 rfl (by decide) ?_
    refine u_new C kX9 wd_806 wd_807 wd_70 (fs := [.int (zI 0), .null, .int (zI 0), .int (zI 0), .int (zI 0), .int (zI 0), .int (zI 0), .int (zI 0), .int (zI 0), .int (zI 0), .null, .int (zI 0), .null, .int (zI 0), .int (zI 0), .null, .int (zI 0), .int (zI 0), .int (zI 0), .null, .int (zI 0), .null, .int (zI 0), .int (zI 0), .null, .int (zI 0), .null, .null, .null, .null, .null, .int (zI 0), .null, .null, .null, .null, .null, .null]) (fun j hj => by rcases (show j = 0 ∨ j = 1 ∨ j = 2 ∨ j = 3 ∨ j = 4 ∨ j = 5 ∨ j = 6 ∨ j = 7 ∨ j = 8 ∨ j = 9 ∨ j = 10 ∨ j = 11 ∨ j = 12 ∨ j = 13 ∨ j = 14 ∨ j = 15 ∨ j = 16 ∨ j = 17 ∨ j = 18 ∨ j = 19 ∨ j = 20 ∨ j = 21 ∨ j = 22 ∨ j = 23 ∨ j = 24 ∨ j = 25 ∨ j = 26 ∨ j = 27 ∨ j = 28 ∨ j = 29 ∨ j = 30 ∨ j = 31 ∨ j = 32 ∨ j = 33 ∨ j = 34 ∨ j = 35 ∨ j = 36 ∨ j = 37 by omega) with rfl | rfl | rfl | rfl | rfl | rfl | rfl | rfl | rfl | rfl | rfl | rfl | rfl | rfl | rfl | rfl | rfl | rfl | rfl | rfl | rfl | rfl | rfl | rfl | rfl | rfl | rfl | rfl | rfl | rfl | rfl | rfl | rfl | rfl | rfl | rfl | rfl | rfl <;> rfl) (by decide) (by decide) dL_law_8 (fun q1 => ?_)
    refine u_dup C dL_law_11 rfl ?_
    refine u_callI C (k_X9_init D cA A l ad aa q1 begin_Inv) (fun _ _ _ _ _ => trivial) (fun _ _ => trivial) wd_808 wd_809 wd_70 wd_810 rfl (by decide +kernel) ⟨by decide, by decide⟩ (Nat.le_of_ble_eq_true rfl) dL_law_12 ⟨by decide, by decide⟩ (fun u t hB => ?_)
    obtain ⟨ad1, aa1, T1⟩ := u
    obtain ⟨⟨w1, w2, w3, w4⟩, hA1, hP1, e1, e2⟩ := hB
    have e1 : ad1 13 = q1 := e1
    have e2 : ad1 0 = ad 0 := e2
    subst e1
    refine ⟨wsG (gOf D cA A ad1 aa1) T1, ⟨w2, w3, w4, hA1⟩, ?_⟩
    refine u_astore_n C dL_law_15 rfl (by decide) ?_
    refine u_ofV w1 ?_
    have CV : CT (gOf D cA A ad1 aa1) l (p, l, e, room_1, s, m, #[Value.ref b], below, meth, c, 70, 5328, lw_Z below #[Value.ref b] s) cL_law 4 RL room_1 := ⟨hx, hb, hml, hown, hts, hK, rfl, by decide, by decide, rfl⟩
    have EV : EL (gOf D cA A ad1 aa1) (p, l, e, room_1, s, m, #[Value.ref b], below, meth, c, 70, 5328, lw_Z below #[Value.ref b] s) b := ⟨rfl, hr, hlocks, rfl, rfl, rfl, hAr, rfl⟩
    have SV : SX (gOf D cA A ad1 aa1) (p, l, e, room_1, s, m, #[Value.ref b], below, meth, c, 70, 5328, lw_Z below #[Value.ref b] s) b L xs := ⟨hX, hbl, fun h => by have := hAr b h; omega, hL⟩
    refine v_iconst CV dL_law_16 ?_
    refine v_istore_n CV dL_law_17 rfl (by decide) ?_
    have k := ti_law CV EV SV hL L 0 T1 (Int.le_refl 0) (by decide) (by omega) hP1
    refine v_sub (lv' := [(0, .ref b), (1, .ref (gad (gOf D cA A ad1 aa1) 0)), (2, .ref (gad (gOf D cA A ad1 aa1) 13)), (3, .int (zI 0))]) [3, 2, 1, 0] ?_ k
    show [(0, Value.ref b), (1, Value.ref (ad 0)), (2, Value.ref (ad1 13)), (3, Value.int (zI 0))] = [(0, Value.ref b), (1, Value.ref (ad1 0)), (2, Value.ref (ad1 13)), (3, Value.int (zI 0))]
    rw [e2]
  exact main s.heap [] _ (fun k q h => by simp at h) ⟨fun i j p q h => by simp at h, fun k q h => by simp at h⟩ va_S.rf (by rw [hml]; exact hl)
set_option maxHeartbeats 4000000 in
theorem lw_walk (l : Launch) (b : Addr) (xs : List Int32) : MetFree l x (headSpec (Jvm.Cond.code x code maxLocals ret :: tables_1) room_1) (lw_P b xs) (fun _ _ _ _ _ => True) lw_Q := by
  refine MetFree.of_bodyS (code := code) (maxLocals := maxLocals) (ret := ret) (by decide) ?_ ?_
  · intro args s m h hn
    obtain ⟨meth, c, h1, h2, h3, h4, h5, h6, -, -⟩ := Cond.code_spec hn (atoms_spec (ws := Jvm.Cond.code x code maxLocals ret :: tables_1) h _ List.mem_cons_self)
    exact ⟨meth, c, h1, h2, h3, h4, h5, h6⟩
  · intro p e s m args below meth c s₁ B hml0 hP _
    obtain ⟨rfl, hx, hbd, hgv⟩ := hP
    obtain ⟨scr, harrAt, hlist, hof, hsmall⟩ := hx
    obtain ⟨hcb, hkn, -, -⟩ := State.arrayAt?_spec harrAt
    have hown : s.vm.findClass R_law = some m.cls := findClass_of_methodNamed B.named
    have hts0 : ∀ c ∈ (Jvm.Cond.code x code maxLocals ret :: tables_1), c.before #[Value.ref b] s = true := atoms_spec (ws := Jvm.Cond.code x code maxLocals ret :: tables_1) B.pre
    have hts : ∀ w ∈ lw_tbl, w.before #[Value.ref b] s = true := k2_hts_sels lw_privs (fun w hw => hts0 w (List.mem_cons_of_mem _ hw)) lw_privs_ok
    have hml : c.maxLocals = 4 := B.maxLocals_eq (hts0 _ List.mem_cons_self)
    have X₀ : Stand p l e room_1 s m #[Value.ref b] below meth c s₁ [] 0 0 := Stand.of_body B
    have hh0 : s₁.heap = s.heap := by rw [B.state]; rfl
    have hsz : scr.slots.size = xs.length := by rw [← Array.length_toList, hlist, List.length_map]
    have hval : ∀ j : Nat, j < xs.length → scr.slots[j]? = some (.int (xs.getD j 0)) := fun j hj => by
      rw [← Array.getElem?_toList, hlist]
      simp [hj]
    have hbl : b < s.heap.size := (Array.getElem?_eq_some_iff.mp hcb).1
    have hX : va_X b xs.length (fun j => xs.getD j 0) s s.heap := ⟨scr, hcb, hof, hkn, hsz, hval⟩
    have K : W p l e room_1 s m #[Value.ref b] below meth c s₁.heap [] 0 0 (lw_Z below #[Value.ref b] s) (entryFrame m ([Value.ref b] : List Value).toArray 4) := by
      rw [hh0]
      exact whole_start l hbd ⟨B.exec, B.bytes, B.returns, hml, hown, hts, hX, hbl, B.notSynchronized, hgv⟩
    obtain ⟨t, a1, o, b1, b2, b3⟩ := K s₁ rfl X₀
    exact ⟨t, o, a1, b1, b2, b3⟩
theorem lw_pre_spec {args : Array Value} {s : State} (h : (Jvm.Cond.and given_1 narrow_1).before args s = true) (hr : rest_1_c.before args s = true) : ∃ (b : Addr) (xs : List Int32), lw_P b xs args s := by
  have hs := flat_of_before _ h
  have hq := flat_of_before _ hr
  have hc : (Cond.count 1).before args s = true := hs _ (by decide +kernel)
  have harr : (Cond.arrayOf (.arg 0) .int).before args s = true := hs _ (by decide +kernel)
  have hle : (Cond.le (.length (.arg 0)) (.int 2560)).before args s = true := hs _ (by decide +kernel)
  have hlen : (Cond.isInt (.length (.arg 0))).before args s = true := hq _ (by decide +kernel)
  have hall : (Cond.all (.arg 0) (.isInt (.elem (.arg 0) (.index 0)))).before args s = true := hq _ (by decide +kernel)
  obtain ⟨b, xs, hb, hx⟩ := State.ints_of_pre rfl harr hlen hall
  have hsm : xs.length < 2 ^ 31 := hx.choose_spec.2.2.2
  have hev : (Term.length (.arg 0)).eval args s none [] s = some (.int xs.length.toInt32) := hx.length_eval hb
  have hv := Cond.le_ints hev (show (Term.int 2560).eval args s none [] s = some (.int 2560) from rfl)
  have hd : xs.length.toInt32 ≤ 2560 := by
    simpa [Cond.before, Cond.holds, hv] using hle
  have hN : xs.length ≤ 2560 := (Int32.ofNat_le_ofNat hsm (by decide)).mp (show Int32.ofNat xs.length ≤ Int32.ofNat 2560 from hd)
  exact ⟨b, xs, Cond.one_arg hc (show args[0]? = some (.ref b) from hb), hx, hN, h⟩
theorem lw_comes (l : Launch) : Comes l x (Jvm.Cond.code x code maxLocals ret :: tables_1) room_1 (fun tb e args s => Calls_1 tb e args s ∧ rest_1 tb e args s ∧ Pre_1 tb e args s)
    (fun _ _ args s o t => lw_Q args s o t) := by
  intro p e ha hc hk s m args below hf hfit hheap happ hpre
  obtain ⟨b, xs, hP⟩ := lw_pre_spec hpre.2.2 hpre.2.1
  obtain ⟨k, o, h1, h2, h3, hQ⟩ := lw_walk l b xs p e ha hc hk s m args below hf ((Spec.applies_iff_loose hf).mp happ).1 hP trivial
  exact ⟨k, o, h1, h2, h3, hQ⟩
theorem lw_frame {s t : State} {o : Outcome} {args : Array Value} (h : Framed s o t [] 70 5328) :
    Framed s o t (fieldLocs frame_1_writes args s ++ arrayLocs frame_1_arrays args s ++ staticLocs frame_1_statics s) 70 5328 := h
theorem lw_limb (L : Cond) (hL : ∀ (args : Array Value) (s t : State), L.after args s (.returned (some (.int 1))) t = true) :
    ArmFor flags0 classFile x code maxLocals ret World_1 tables_1 room_1 Calls_1 rest_1 Pre_1
      (fun tb e a s o t => postC L tb e a s o t ∧ Framed s o t (fieldLocs frame_1_writes a s ++ arrayLocs frame_1_arrays a s ++ staticLocs frame_1_statics s) 70 5328) := by
  intro l _ _ _ p e ha hc hk s m args below hf hfit hheap happ hpre
  obtain ⟨k, o, h1, h2, h3, rfl, hF⟩ := lw_comes l p e ha hc hk s m args below hf hfit hheap happ hpre
  exact ⟨k, _, h1, h2, h3, hL args s _, lw_frame hF⟩
theorem i_vc : Claimed_1_1 ∧ Claimed_1_2 := ⟨lw_limb limb_1_1 (fun args s t => by simp [limb_1_1, Cond.after, Cond.holds, Cond.value]), lw_limb limb_1_2 (fun args s t => Cond.after_iff.mpr (by
  first | (rw [show limb_1_2 = Cond.eq .result (.int 1) from rfl, Cond.eq_ints (x := 1) (y := 1) rfl rfl]; simp; done) | (simp [limb_1_2, Cond.value, Term.eval]; done)))⟩
