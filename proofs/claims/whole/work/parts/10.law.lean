set_option maxRecDepth 100000 in
theorem wd_354 : (.methodLink RL 13 yX8_feed : Cond) ∈ lw_g := mg (List.mem_of_getElem? (i := 354) rfl) rfl
set_option maxRecDepth 100000 in
theorem wd_364 : (.methodLink RL 18 yX8_land : Cond) ∈ lw_g := mg (List.mem_of_getElem? (i := 364) rfl) rfl
set_option maxRecDepth 100000 in
theorem wd_463 : (.methodLink RL 23 yX8_fault : Cond) ∈ lw_g := mg (List.mem_of_getElem? (i := 463) rfl) rfl
set_option maxRecDepth 100000 in
theorem wd_467 : (.methodLink RL 27 yX8_told : Cond) ∈ lw_g := mg (List.mem_of_getElem? (i := 467) rfl) rfl
set_option maxRecDepth 100000 in
theorem wd_485 : (.methodLink RL 31 yX8_fact : Cond) ∈ lw_g := mg (List.mem_of_getElem? (i := 485) rfl) rfl
set_option maxRecDepth 100000 in
theorem wd_499 : (.methodLink RL 36 yX8_person : Cond) ∈ lw_g := mg (List.mem_of_getElem? (i := 499) rfl) rfl
set_option maxRecDepth 100000 in
theorem wd_512 : (.methodLink RL 40 yX8_since : Cond) ∈ lw_g := mg (List.mem_of_getElem? (i := 512) rfl) rfl
set_option maxRecDepth 100000 in
theorem wd_524 : (.methodLink RL 44 yX8_weight : Cond) ∈ lw_g := mg (List.mem_of_getElem? (i := 524) rfl) rfl
set_option maxRecDepth 100000 in
theorem wd_536 : (.methodLink RL 48 yX8_bridge : Cond) ∈ lw_g := mg (List.mem_of_getElem? (i := 536) rfl) rfl
set_option maxRecDepth 100000 in
theorem wd_544 : (.methodLink RL 52 yX8_tell : Cond) ∈ lw_g := mg (List.mem_of_getElem? (i := 544) rfl) rfl
set_option maxRecDepth 100000 in
theorem wd_553 : (.methodLink RL 56 yX8_forget : Cond) ∈ lw_g := mg (List.mem_of_getElem? (i := 553) rfl) rfl
set_option maxRecDepth 100000 in
theorem wd_561 : (.methodLink RL 60 yX8_hour : Cond) ∈ lw_g := mg (List.mem_of_getElem? (i := 561) rfl) rfl
set_option maxRecDepth 100000 in
theorem wd_592 : (.methodLink RL 64 yX8_drift : Cond) ∈ lw_g := mg (List.mem_of_getElem? (i := 592) rfl) rfl
set_option maxRecDepth 100000 in
theorem wd_608 : (.methodLink RL 68 yX8_heavy : Cond) ∈ lw_g := mg (List.mem_of_getElem? (i := 608) rfl) rfl
set_option maxRecDepth 100000 in
theorem wd_619 : (.methodLink RL 72 yX8_when : Cond) ∈ lw_g := mg (List.mem_of_getElem? (i := 619) rfl) rfl
set_option maxRecDepth 100000 in
theorem wd_623 : (.methodLink RL 76 yX8_least : Cond) ∈ lw_g := mg (List.mem_of_getElem? (i := 623) rfl) rfl
set_option maxRecDepth 100000 in
theorem wd_645 : (.methodLink RL 81 yX8_trips : Cond) ∈ lw_g := mg (List.mem_of_getElem? (i := 645) rfl) rfl
set_option maxRecDepth 100000 in
theorem wd_666 : (.methodLink RL 85 yX8_counted : Cond) ∈ lw_g := mg (List.mem_of_getElem? (i := 666) rfl) rfl
set_option maxRecDepth 100000 in
theorem wd_704 : (.methodLink RL 90 yX8_lies : Cond) ∈ lw_g := mg (List.mem_of_getElem? (i := 704) rfl) rfl
set_option maxRecDepth 100000 in
theorem wd_709 : (.methodLink RL 94 yX8_apart : Cond) ∈ lw_g := mg (List.mem_of_getElem? (i := 709) rfl) rfl
set_option maxRecDepth 100000 in
theorem wd_722 : (.methodLink RL 98 yX8_treaty : Cond) ∈ lw_g := mg (List.mem_of_getElem? (i := 722) rfl) rfl
set_option maxRecDepth 100000 in
theorem wd_742 : (.methodLink RL 102 yX8_odds : Cond) ∈ lw_g := mg (List.mem_of_getElem? (i := 742) rfl) rfl
set_option maxRecDepth 100000 in
theorem wd_772 : (.methodLink RL 106 yX8_write : Cond) ∈ lw_g := mg (List.mem_of_getElem? (i := 772) rfl) rfl
set_option maxRecDepth 100000 in
theorem wd_781 : (.methodLink RL 110 yX8_tear : Cond) ∈ lw_g := mg (List.mem_of_getElem? (i := 781) rfl) rfl
set_option maxRecDepth 100000 in
theorem wd_785 : (.methodLink RL 114 yX8_judge : Cond) ∈ lw_g := mg (List.mem_of_getElem? (i := 785) rfl) rfl
set_option maxRecDepth 100000 in
theorem wd_794 : (.methodLink RL 118 yX8_seed : Cond) ∈ lw_g := mg (List.mem_of_getElem? (i := 794) rfl) rfl
set_option maxRecDepth 100000 in
theorem wd_798 : (.methodLink RL 122 yX8_keep : Cond) ∈ lw_g := mg (List.mem_of_getElem? (i := 798) rfl) rfl
set_option maxRecDepth 100000 in
theorem wd_802 : (.methodLink RL 126 yX8_goBack : Cond) ∈ lw_g := mg (List.mem_of_getElem? (i := 802) rfl) rfl
set_option maxRecDepth 100000 in
theorem wd_933 : (.methodLink RL 17 yX9_feed : Cond) ∈ lw_g := mg (List.mem_of_getElem? (i := 933) rfl) rfl
set_option maxRecDepth 100000 in
theorem wd_942 : (.methodLink RL 22 yX9_land : Cond) ∈ lw_g := mg (List.mem_of_getElem? (i := 942) rfl) rfl
set_option maxRecDepth 100000 in
theorem wd_997 : (.methodLink RL 26 yX9_fault : Cond) ∈ lw_g := mg (List.mem_of_getElem? (i := 997) rfl) rfl
set_option maxRecDepth 100000 in
theorem wd_1001 : (.methodLink RL 30 yX9_told : Cond) ∈ lw_g := mg (List.mem_of_getElem? (i := 1001) rfl) rfl
set_option maxRecDepth 100000 in
theorem wd_1016 : (.methodLink RL 35 yX9_fact : Cond) ∈ lw_g := mg (List.mem_of_getElem? (i := 1016) rfl) rfl
set_option maxRecDepth 100000 in
theorem wd_1029 : (.methodLink RL 39 yX9_person : Cond) ∈ lw_g := mg (List.mem_of_getElem? (i := 1029) rfl) rfl
set_option maxRecDepth 100000 in
theorem wd_1041 : (.methodLink RL 43 yX9_since : Cond) ∈ lw_g := mg (List.mem_of_getElem? (i := 1041) rfl) rfl
set_option maxRecDepth 100000 in
theorem wd_1045 : (.methodLink RL 47 yX9_weight : Cond) ∈ lw_g := mg (List.mem_of_getElem? (i := 1045) rfl) rfl
set_option maxRecDepth 100000 in
theorem wd_1061 : (.methodLink RL 51 yX9_bridge : Cond) ∈ lw_g := mg (List.mem_of_getElem? (i := 1061) rfl) rfl
set_option maxRecDepth 100000 in
theorem wd_1069 : (.methodLink RL 55 yX9_tell : Cond) ∈ lw_g := mg (List.mem_of_getElem? (i := 1069) rfl) rfl
set_option maxRecDepth 100000 in
theorem wd_1074 : (.methodLink RL 59 yX9_forget : Cond) ∈ lw_g := mg (List.mem_of_getElem? (i := 1074) rfl) rfl
set_option maxRecDepth 100000 in
theorem wd_1078 : (.methodLink RL 63 yX9_hour : Cond) ∈ lw_g := mg (List.mem_of_getElem? (i := 1078) rfl) rfl
set_option maxRecDepth 100000 in
theorem wd_1098 : (.methodLink RL 67 yX9_drift : Cond) ∈ lw_g := mg (List.mem_of_getElem? (i := 1098) rfl) rfl
set_option maxRecDepth 100000 in
theorem wd_1110 : (.methodLink RL 71 yX9_heavy : Cond) ∈ lw_g := mg (List.mem_of_getElem? (i := 1110) rfl) rfl
set_option maxRecDepth 100000 in
theorem wd_1114 : (.methodLink RL 75 yX9_when : Cond) ∈ lw_g := mg (List.mem_of_getElem? (i := 1114) rfl) rfl
set_option maxRecDepth 100000 in
theorem wd_1118 : (.methodLink RL 80 yX9_least : Cond) ∈ lw_g := mg (List.mem_of_getElem? (i := 1118) rfl) rfl
set_option maxRecDepth 100000 in
theorem wd_1126 : (.methodLink RL 84 yX9_trips : Cond) ∈ lw_g := mg (List.mem_of_getElem? (i := 1126) rfl) rfl
set_option maxRecDepth 100000 in
theorem wd_1134 : (.methodLink RL 89 yX9_counted : Cond) ∈ lw_g := mg (List.mem_of_getElem? (i := 1134) rfl) rfl
set_option maxRecDepth 100000 in
theorem wd_1146 : (.methodLink RL 93 yX9_lies : Cond) ∈ lw_g := mg (List.mem_of_getElem? (i := 1146) rfl) rfl
set_option maxRecDepth 100000 in
theorem wd_1150 : (.methodLink RL 97 yX9_apart : Cond) ∈ lw_g := mg (List.mem_of_getElem? (i := 1150) rfl) rfl
set_option maxRecDepth 100000 in
theorem wd_1161 : (.methodLink RL 101 yX9_treaty : Cond) ∈ lw_g := mg (List.mem_of_getElem? (i := 1161) rfl) rfl
set_option maxRecDepth 100000 in
theorem wd_1169 : (.methodLink RL 105 yX9_odds : Cond) ∈ lw_g := mg (List.mem_of_getElem? (i := 1169) rfl) rfl
set_option maxRecDepth 100000 in
theorem wd_1175 : (.methodLink RL 109 yX9_write : Cond) ∈ lw_g := mg (List.mem_of_getElem? (i := 1175) rfl) rfl
set_option maxRecDepth 100000 in
theorem wd_1179 : (.methodLink RL 113 yX9_tear : Cond) ∈ lw_g := mg (List.mem_of_getElem? (i := 1179) rfl) rfl
set_option maxRecDepth 100000 in
theorem wd_1183 : (.methodLink RL 117 yX9_judge : Cond) ∈ lw_g := mg (List.mem_of_getElem? (i := 1183) rfl) rfl
set_option maxRecDepth 100000 in
theorem wd_1187 : (.methodLink RL 121 yX9_seed : Cond) ∈ lw_g := mg (List.mem_of_getElem? (i := 1187) rfl) rfl
set_option maxRecDepth 100000 in
theorem wd_1191 : (.methodLink RL 125 yX9_keep : Cond) ∈ lw_g := mg (List.mem_of_getElem? (i := 1191) rfl) rfl
set_option maxRecDepth 100000 in
theorem wd_1195 : (.methodLink RL 129 yX9_goBack : Cond) ∈ lw_g := mg (List.mem_of_getElem? (i := 1195) rfl) rfl
def R_law : String := "KnownWeightLaw"
def lw_P (b : Addr) (xs : List Int32) (args : Array Value) (s : State) : Prop := args = #[.ref b] ∧ s.IntsAt b xs ∧ xs.length ≤ 2560 ∧ (Jvm.Cond.and given_1 narrow_1).before args s = true
def lw_Q (_ : Array Value) (s : State) (o : Outcome) (t : State) : Prop := o = .returned (some (.int 1)) ∧ Framed s o t [] 70 5328
def lw_Z (below : List Frame) (a : Array Value) (s : State) : State → Prop := fun t => ∃ o, t.status = .running ∧ Ended t below o ∧ lw_Q a s o t
/-- the law's own end, with 1 on the stack, nothing written that was there before, its room as the claim has it -/
theorem lw_ret {p : Program} {l : Launch} {e : Env} {s : State} {m : MethodId} {below : List Frame} {meth : Method} {c : Code} {b : Nat} (hx : p.tables.exec = Jvm.exec) (hb : c.code = code) (hr : meth.sig.returnType = ret) (hlocks : meth.locks = false) {pc : Nat} {H : Heap} {ls : Array Slot} (hdg : decode code pc = .ok (.ireturn, 1)) : W p l e room_1 s m #[Value.ref b] below meth c H [] 70 5328 (lw_Z below #[Value.ref b] s) (F0 m pc ls [.int 1]) := by
  intro T hT X
  obtain ⟨fs, hret, hrun, hended, hW, hframe⟩ := X.leave (v := some (.int 1)) (hlocks := hlocks) (fun h => by rw [hr] at h; cases h)
  have hmeth' : T.vm.method? m = some meth := X.method'
  refine ⟨T.setFrames fs, ?_, .returned (some (.int 1)), hrun, hended, rfl, ⟨_, rfl⟩, hW, hframe⟩
  jvm_step X.here [X.here.top, hx, hb, hdg, hmeth', hr, ret, narrow_b1]
  (try refine ⟨rfl, ?_⟩); (try refine ⟨rfl, ?_⟩)
  first | (intro acts; rw [hret _ acts rfl rfl rfl]) | rw [hret _ _ rfl rfl rfl]
  exact Steps.refl _
def xz (xs : Nat → Int32) (i : Int) : Int := (xs i.toNat).toInt
def SX (G : GT) (X : CX) (b L : Nat) (xs : Nat → Int32) : Prop := match X with
  | (_, _, _, _, s, _, _, _, _, _, _, _, _) => va_X b L xs s s.heap ∧ b < s.heap.size ∧ ¬ gA G b ∧ L ≤ 2560
def EL (G : GT) (X : CX) (b : Nat) : Prop := match X with
  | (_, _, _, R, s, _, args, below, meth, _, nc, ns, Q) => R = room_1 ∧ meth.sig.returnType = ret ∧ meth.locks = false ∧ nc = 70 ∧ ns = 5328 ∧ args = #[Value.ref b] ∧ (∀ q, gA G q → s.heap.size ≤ q) ∧ Q = lw_Z below #[Value.ref b] s
theorem v_sld {G : GT} {X : CX} {Th : TH} {pc : Nat} {lv : List (Nat × Value)} {st : List Value} {cc : ByteArray} {nL : Nat} {own : String} {rm : Room} {l0 : Launch} (C : CT G l0 X cc nL own rm) {b L : Nat} {xs : Nat → Int32} (S : SX G X b L xs) {i : Int} (hd : decode cc pc = .ok (.iaload, 1)) (h0 : 0 ≤ i) (hn : i < L) (k : V G X Th (pc + 1) lv (.int (zI (xz xs i)) :: st)) : V G X Th pc lv (.int (zI i) :: .ref b :: st) := by
  obtain ⟨p, l, e, R, s, m, args, below, meth, c, nc, ns, Q⟩ := X
  obtain ⟨hx, hb, hml, hown, hts, hK, hR, hcc, hss, -⟩ := C
  obtain ⟨s1, s2, s3, s4⟩ := S
  intro H locs ls h1 h2 h3 h4 h5
  obtain ⟨z1, z2⟩ := zI_in h0 hn (by omega)
  refine va_sld hx hb s1 s2 s3 h4 z1 hd ?_
  have k := k H locs ls h1 h2 h3 h4 h5
  unfold xz at k
  rw [zI_of] at k
  rw [z2]
  exact k
theorem v_slen {G : GT} {X : CX} {Th : TH} {pc : Nat} {lv : List (Nat × Value)} {st : List Value} {cc : ByteArray} {nL : Nat} {own : String} {rm : Room} {l0 : Launch} (C : CT G l0 X cc nL own rm) {b L : Nat} {xs : Nat → Int32} (S : SX G X b L xs) (hd : decode cc pc = .ok (.arraylength, 1)) (k : V G X Th (pc + 1) lv (.int (zI (L : Int)) :: st)) : V G X Th pc lv (.ref b :: st) := by
  obtain ⟨p, l, e, R, s, m, args, below, meth, c, nc, ns, Q⟩ := X
  obtain ⟨hx, hb, hml, hown, hts, hK, hR, hcc, hss, -⟩ := C
  obtain ⟨s1, s2, s3, s4⟩ := S
  intro H locs ls h1 h2 h3 h4 h5
  refine va_slen hx hb s1 s2 s3 h4 hd ?_
  have k := k H locs ls h1 h2 h3 h4 h5
  have e9 : zI (L : Int) = Int32.ofNat L := Int32.ofInt_eq_ofNat
  rw [e9] at k
  exact k
theorem v_lawret {G : GT} {X : CX} {Th : TH} {pc : Nat} {lv : List (Nat × Value)} {nL : Nat} {own : String} {rm : Room} {l0 : Launch} (C : CT G l0 X code nL own rm) {b : Nat} (E : EL G X b) (hd : decode code pc = .ok (.ireturn, 1)) : V G X Th pc lv [.int (zI 1)] := by
  obtain ⟨p, l, e, R, s, m, args, below, meth, c, nc, ns, Q⟩ := X
  obtain ⟨hx, hb, hml, hown, hts, hK, hR, hcc, hss, -⟩ := C
  obtain ⟨e1, e2, e3, rfl, rfl, rfl, e6, rfl⟩ := E
  subst e1
  intro H locs ls h1 h2 h3 h4 h5
  refine va_forget (fun q hq => e6 _ (h4.2.2 q hq)) ?_
  exact lw_ret hx hb e2 e3 hd
def b_L_law_994 (L : Nat) (xs : Nat → Int32) (K18 : Int → TH → Prop) (v3 : Int) (T : TH) : Prop :=
  K18 (v3 + 5) T
def h_L_law_18 (L : Nat) (xs : Nat → Int32) : Nat → Int → TH → Prop
  | 0, _, _ => False
  | n + 1, v3, T => zR v3 ∧ zR ((L : Int) - 5) ∧ (((L : Int) - 5) < v3 → (True)) ∧ (¬ (((L : Int) - 5) < v3) → (0 ≤ v3 ∧ v3 < L ∧ zR (zand (xz xs v3) 31) ∧ ((zand (xz xs v3) 31) = 0 → (0 ≤ (v3 + 1) ∧ (v3 + 1) < L ∧ wp_X8_feed (xz xs (v3 + 1)) T (fun r2 T1 => 0 ≤ (v3 + 1) ∧ (v3 + 1) < L ∧ wp_X9_feed (xz xs (v3 + 1)) T1 (fun r4 T3 => zR r2 ∧ zR r4 ∧ (r2 = r4 → (b_L_law_994 L xs (h_L_law_18 L xs n) v3 T3)) ∧ (¬ (r2 = r4) → (False)))))) ∧ ((zand (xz xs v3) 31) = 1 → (wp_X8_land T (fun r6 T5 => wp_X9_land T5 (fun r8 T7 => zR r6 ∧ zR r8 ∧ (r6 = r8 → (b_L_law_994 L xs (h_L_law_18 L xs n) v3 T7)) ∧ (¬ (r6 = r8) → (False)))))) ∧ ((zand (xz xs v3) 31) = 2 → (wp_X8_fault T (fun r10 T9 => wp_X9_fault T9 (fun r12 T11 => zR r10 ∧ zR r12 ∧ (r10 = r12 → (b_L_law_994 L xs (h_L_law_18 L xs n) v3 T11)) ∧ (¬ (r10 = r12) → (False)))))) ∧ ((zand (xz xs v3) 31) = 3 → (0 ≤ (v3 + 1) ∧ (v3 + 1) < L ∧ wp_X8_told (xz xs (v3 + 1)) T (fun r14 T13 => 0 ≤ (v3 + 1) ∧ (v3 + 1) < L ∧ wp_X9_told (xz xs (v3 + 1)) T13 (fun r16 T15 => zR r14 ∧ zR r16 ∧ (r14 = r16 → (b_L_law_994 L xs (h_L_law_18 L xs n) v3 T15)) ∧ (¬ (r14 = r16) → (False)))))) ∧ ((zand (xz xs v3) 31) = 4 → (0 ≤ (v3 + 1) ∧ (v3 + 1) < L ∧ 0 ≤ (v3 + 2) ∧ (v3 + 2) < L ∧ wp_X8_fact (xz xs (v3 + 1)) (xz xs (v3 + 2)) T (fun r18 T17 => 0 ≤ (v3 + 1) ∧ (v3 + 1) < L ∧ 0 ≤ (v3 + 2) ∧ (v3 + 2) < L ∧ wp_X9_fact (xz xs (v3 + 1)) (xz xs (v3 + 2)) T17 (fun r20 T19 => zR r18 ∧ zR r20 ∧ (r18 = r20 → (b_L_law_994 L xs (h_L_law_18 L xs n) v3 T19)) ∧ (¬ (r18 = r20) → (False)))))) ∧ ((zand (xz xs v3) 31) = 5 → (0 ≤ (v3 + 1) ∧ (v3 + 1) < L ∧ 0 ≤ (v3 + 2) ∧ (v3 + 2) < L ∧ wp_X8_person (xz xs (v3 + 1)) (xz xs (v3 + 2)) T (fun r22 T21 => 0 ≤ (v3 + 1) ∧ (v3 + 1) < L ∧ 0 ≤ (v3 + 2) ∧ (v3 + 2) < L ∧ wp_X9_person (xz xs (v3 + 1)) (xz xs (v3 + 2)) T21 (fun r24 T23 => zR r22 ∧ zR r24 ∧ (r22 = r24 → (b_L_law_994 L xs (h_L_law_18 L xs n) v3 T23)) ∧ (¬ (r22 = r24) → (False)))))) ∧ ((zand (xz xs v3) 31) = 6 → (0 ≤ (v3 + 1) ∧ (v3 + 1) < L ∧ 0 ≤ (v3 + 2) ∧ (v3 + 2) < L ∧ wp_X8_since (xz xs (v3 + 1)) (xz xs (v3 + 2)) T (fun r26 T25 => 0 ≤ (v3 + 1) ∧ (v3 + 1) < L ∧ 0 ≤ (v3 + 2) ∧ (v3 + 2) < L ∧ wp_X9_since (xz xs (v3 + 1)) (xz xs (v3 + 2)) T25 (fun r28 T27 => zR r26 ∧ zR r28 ∧ (r26 = r28 → (b_L_law_994 L xs (h_L_law_18 L xs n) v3 T27)) ∧ (¬ (r26 = r28) → (False)))))) ∧ ((zand (xz xs v3) 31) = 7 → (0 ≤ (v3 + 1) ∧ (v3 + 1) < L ∧ wp_X8_weight (xz xs (v3 + 1)) T (fun r30 T29 => 0 ≤ (v3 + 1) ∧ (v3 + 1) < L ∧ wp_X9_weight (xz xs (v3 + 1)) T29 (fun r32 T31 => zR r30 ∧ zR r32 ∧ (r30 = r32 → (b_L_law_994 L xs (h_L_law_18 L xs n) v3 T31)) ∧ (¬ (r30 = r32) → (False)))))) ∧ ((zand (xz xs v3) 31) = 8 → (0 ≤ (v3 + 1) ∧ (v3 + 1) < L ∧ wp_X8_bridge (xz xs (v3 + 1)) T (fun r34 T33 => 0 ≤ (v3 + 1) ∧ (v3 + 1) < L ∧ wp_X9_bridge (xz xs (v3 + 1)) T33 (fun r36 T35 => zR r34 ∧ zR r36 ∧ (r34 = r36 → (b_L_law_994 L xs (h_L_law_18 L xs n) v3 T35)) ∧ (¬ (r34 = r36) → (False)))))) ∧ ((zand (xz xs v3) 31) = 9 → (0 ≤ (v3 + 1) ∧ (v3 + 1) < L ∧ 0 ≤ (v3 + 2) ∧ (v3 + 2) < L ∧ wp_X8_tell (xz xs (v3 + 1)) (xz xs (v3 + 2)) T (fun r38 T37 => 0 ≤ (v3 + 1) ∧ (v3 + 1) < L ∧ 0 ≤ (v3 + 2) ∧ (v3 + 2) < L ∧ wp_X9_tell (xz xs (v3 + 1)) (xz xs (v3 + 2)) T37 (fun r40 T39 => zR r38 ∧ zR r40 ∧ (r38 = r40 → (b_L_law_994 L xs (h_L_law_18 L xs n) v3 T39)) ∧ (¬ (r38 = r40) → (False)))))) ∧ ((zand (xz xs v3) 31) = 10 → (0 ≤ (v3 + 1) ∧ (v3 + 1) < L ∧ 0 ≤ (v3 + 2) ∧ (v3 + 2) < L ∧ wp_X8_forget (xz xs (v3 + 1)) (xz xs (v3 + 2)) T (fun r42 T41 => 0 ≤ (v3 + 1) ∧ (v3 + 1) < L ∧ 0 ≤ (v3 + 2) ∧ (v3 + 2) < L ∧ wp_X9_forget (xz xs (v3 + 1)) (xz xs (v3 + 2)) T41 (fun r44 T43 => zR r42 ∧ zR r44 ∧ (r42 = r44 → (b_L_law_994 L xs (h_L_law_18 L xs n) v3 T43)) ∧ (¬ (r42 = r44) → (False)))))) ∧ ((zand (xz xs v3) 31) = 11 → (0 ≤ (v3 + 1) ∧ (v3 + 1) < L ∧ wp_X8_hour (xz xs (v3 + 1)) T (fun r46 T45 => 0 ≤ (v3 + 1) ∧ (v3 + 1) < L ∧ wp_X9_hour (xz xs (v3 + 1)) T45 (fun r48 T47 => zR r46 ∧ zR r48 ∧ (r46 = r48 → (b_L_law_994 L xs (h_L_law_18 L xs n) v3 T47)) ∧ (¬ (r46 = r48) → (False)))))) ∧ ((zand (xz xs v3) 31) = 12 → (0 ≤ (v3 + 1) ∧ (v3 + 1) < L ∧ wp_X8_drift (xz xs (v3 + 1)) T (fun r50 T49 => 0 ≤ (v3 + 1) ∧ (v3 + 1) < L ∧ wp_X9_drift (xz xs (v3 + 1)) T49 (fun r52 T51 => zR r50 ∧ zR r52 ∧ (r50 = r52 → (b_L_law_994 L xs (h_L_law_18 L xs n) v3 T51)) ∧ (¬ (r50 = r52) → (False)))))) ∧ ((zand (xz xs v3) 31) = 13 → (0 ≤ (v3 + 1) ∧ (v3 + 1) < L ∧ 0 ≤ (v3 + 2) ∧ (v3 + 2) < L ∧ wp_X8_heavy (xz xs (v3 + 1)) (xz xs (v3 + 2)) T (fun r54 T53 => 0 ≤ (v3 + 1) ∧ (v3 + 1) < L ∧ 0 ≤ (v3 + 2) ∧ (v3 + 2) < L ∧ wp_X9_heavy (xz xs (v3 + 1)) (xz xs (v3 + 2)) T53 (fun r56 T55 => zR r54 ∧ zR r56 ∧ (r54 = r56 → (b_L_law_994 L xs (h_L_law_18 L xs n) v3 T55)) ∧ (¬ (r54 = r56) → (False)))))) ∧ ((zand (xz xs v3) 31) = 14 → (0 ≤ (v3 + 1) ∧ (v3 + 1) < L ∧ 0 ≤ (v3 + 2) ∧ (v3 + 2) < L ∧ wp_X8_when (xz xs (v3 + 1)) (xz xs (v3 + 2)) T (fun r58 T57 => 0 ≤ (v3 + 1) ∧ (v3 + 1) < L ∧ 0 ≤ (v3 + 2) ∧ (v3 + 2) < L ∧ wp_X9_when (xz xs (v3 + 1)) (xz xs (v3 + 2)) T57 (fun r60 T59 => zR r58 ∧ zR r60 ∧ (r58 = r60 → (b_L_law_994 L xs (h_L_law_18 L xs n) v3 T59)) ∧ (¬ (r58 = r60) → (False)))))) ∧ ((zand (xz xs v3) 31) = 15 → (0 ≤ (v3 + 1) ∧ (v3 + 1) < L ∧ 0 ≤ (v3 + 2) ∧ (v3 + 2) < L ∧ 0 ≤ (v3 + 3) ∧ (v3 + 3) < L ∧ wp_X8_least (xz xs (v3 + 1)) (xz xs (v3 + 2)) (xz xs (v3 + 3)) T (fun r62 T61 => 0 ≤ (v3 + 1) ∧ (v3 + 1) < L ∧ 0 ≤ (v3 + 2) ∧ (v3 + 2) < L ∧ 0 ≤ (v3 + 3) ∧ (v3 + 3) < L ∧ wp_X9_least (xz xs (v3 + 1)) (xz xs (v3 + 2)) (xz xs (v3 + 3)) T61 (fun r64 T63 => zR r62 ∧ zR r64 ∧ (r62 = r64 → (b_L_law_994 L xs (h_L_law_18 L xs n) v3 T63)) ∧ (¬ (r62 = r64) → (False)))))) ∧ ((zand (xz xs v3) 31) = 16 → (0 ≤ (v3 + 1) ∧ (v3 + 1) < L ∧ 0 ≤ (v3 + 2) ∧ (v3 + 2) < L ∧ 0 ≤ (v3 + 3) ∧ (v3 + 3) < L ∧ wp_X8_trips (xz xs (v3 + 1)) (xz xs (v3 + 2)) (xz xs (v3 + 3)) T (fun r66 T65 => 0 ≤ (v3 + 1) ∧ (v3 + 1) < L ∧ 0 ≤ (v3 + 2) ∧ (v3 + 2) < L ∧ 0 ≤ (v3 + 3) ∧ (v3 + 3) < L ∧ wp_X9_trips (xz xs (v3 + 1)) (xz xs (v3 + 2)) (xz xs (v3 + 3)) T65 (fun r68 T67 => zR r66 ∧ zR r68 ∧ (r66 = r68 → (b_L_law_994 L xs (h_L_law_18 L xs n) v3 T67)) ∧ (¬ (r66 = r68) → (False)))))) ∧ ((zand (xz xs v3) 31) = 17 → (0 ≤ (v3 + 1) ∧ (v3 + 1) < L ∧ 0 ≤ (v3 + 2) ∧ (v3 + 2) < L ∧ 0 ≤ (v3 + 3) ∧ (v3 + 3) < L ∧ 0 ≤ (v3 + 4) ∧ (v3 + 4) < L ∧ wp_X8_counted (xz xs (v3 + 1)) (xz xs (v3 + 2)) (xz xs (v3 + 3)) (xz xs (v3 + 4)) T (fun r70 T69 => 0 ≤ (v3 + 1) ∧ (v3 + 1) < L ∧ 0 ≤ (v3 + 2) ∧ (v3 + 2) < L ∧ 0 ≤ (v3 + 3) ∧ (v3 + 3) < L ∧ 0 ≤ (v3 + 4) ∧ (v3 + 4) < L ∧ wp_X9_counted (xz xs (v3 + 1)) (xz xs (v3 + 2)) (xz xs (v3 + 3)) (xz xs (v3 + 4)) T69 (fun r72 T71 => zR r70 ∧ zR r72 ∧ (r70 = r72 → (b_L_law_994 L xs (h_L_law_18 L xs n) v3 T71)) ∧ (¬ (r70 = r72) → (False)))))) ∧ ((zand (xz xs v3) 31) = 18 → (0 ≤ (v3 + 1) ∧ (v3 + 1) < L ∧ 0 ≤ (v3 + 2) ∧ (v3 + 2) < L ∧ 0 ≤ (v3 + 3) ∧ (v3 + 3) < L ∧ wp_X8_lies (xz xs (v3 + 1)) (xz xs (v3 + 2)) (xz xs (v3 + 3)) T (fun r74 T73 => 0 ≤ (v3 + 1) ∧ (v3 + 1) < L ∧ 0 ≤ (v3 + 2) ∧ (v3 + 2) < L ∧ 0 ≤ (v3 + 3) ∧ (v3 + 3) < L ∧ wp_X9_lies (xz xs (v3 + 1)) (xz xs (v3 + 2)) (xz xs (v3 + 3)) T73 (fun r76 T75 => zR r74 ∧ zR r76 ∧ (r74 = r76 → (b_L_law_994 L xs (h_L_law_18 L xs n) v3 T75)) ∧ (¬ (r74 = r76) → (False)))))) ∧ ((zand (xz xs v3) 31) = 19 → (0 ≤ (v3 + 1) ∧ (v3 + 1) < L ∧ 0 ≤ (v3 + 2) ∧ (v3 + 2) < L ∧ 0 ≤ (v3 + 3) ∧ (v3 + 3) < L ∧ wp_X8_apart (xz xs (v3 + 1)) (xz xs (v3 + 2)) (xz xs (v3 + 3)) T (fun r78 T77 => 0 ≤ (v3 + 1) ∧ (v3 + 1) < L ∧ 0 ≤ (v3 + 2) ∧ (v3 + 2) < L ∧ 0 ≤ (v3 + 3) ∧ (v3 + 3) < L ∧ wp_X9_apart (xz xs (v3 + 1)) (xz xs (v3 + 2)) (xz xs (v3 + 3)) T77 (fun r80 T79 => zR r78 ∧ zR r80 ∧ (r78 = r80 → (b_L_law_994 L xs (h_L_law_18 L xs n) v3 T79)) ∧ (¬ (r78 = r80) → (False)))))) ∧ ((zand (xz xs v3) 31) = 20 → (0 ≤ (v3 + 1) ∧ (v3 + 1) < L ∧ 0 ≤ (v3 + 2) ∧ (v3 + 2) < L ∧ 0 ≤ (v3 + 3) ∧ (v3 + 3) < L ∧ wp_X8_treaty (xz xs (v3 + 1)) (xz xs (v3 + 2)) (xz xs (v3 + 3)) T (fun r82 T81 => 0 ≤ (v3 + 1) ∧ (v3 + 1) < L ∧ 0 ≤ (v3 + 2) ∧ (v3 + 2) < L ∧ 0 ≤ (v3 + 3) ∧ (v3 + 3) < L ∧ wp_X9_treaty (xz xs (v3 + 1)) (xz xs (v3 + 2)) (xz xs (v3 + 3)) T81 (fun r84 T83 => zR r82 ∧ zR r84 ∧ (r82 = r84 → (b_L_law_994 L xs (h_L_law_18 L xs n) v3 T83)) ∧ (¬ (r82 = r84) → (False)))))) ∧ ((zand (xz xs v3) 31) = 21 → (0 ≤ (v3 + 1) ∧ (v3 + 1) < L ∧ 0 ≤ (v3 + 2) ∧ (v3 + 2) < L ∧ 0 ≤ (v3 + 3) ∧ (v3 + 3) < L ∧ wp_X8_odds (xz xs (v3 + 1)) (xz xs (v3 + 2)) (xz xs (v3 + 3)) T (fun r86 T85 => 0 ≤ (v3 + 1) ∧ (v3 + 1) < L ∧ 0 ≤ (v3 + 2) ∧ (v3 + 2) < L ∧ 0 ≤ (v3 + 3) ∧ (v3 + 3) < L ∧ wp_X9_odds (xz xs (v3 + 1)) (xz xs (v3 + 2)) (xz xs (v3 + 3)) T85 (fun r88 T87 => zR r86 ∧ zR r88 ∧ (r86 = r88 → (b_L_law_994 L xs (h_L_law_18 L xs n) v3 T87)) ∧ (¬ (r86 = r88) → (False)))))) ∧ ((zand (xz xs v3) 31) = 22 → (0 ≤ (v3 + 1) ∧ (v3 + 1) < L ∧ 0 ≤ (v3 + 2) ∧ (v3 + 2) < L ∧ wp_X8_write (xz xs (v3 + 1)) (xz xs (v3 + 2)) T (fun r90 T89 => 0 ≤ (v3 + 1) ∧ (v3 + 1) < L ∧ 0 ≤ (v3 + 2) ∧ (v3 + 2) < L ∧ wp_X9_write (xz xs (v3 + 1)) (xz xs (v3 + 2)) T89 (fun r92 T91 => zR r90 ∧ zR r92 ∧ (r90 = r92 → (b_L_law_994 L xs (h_L_law_18 L xs n) v3 T91)) ∧ (¬ (r90 = r92) → (False)))))) ∧ ((zand (xz xs v3) 31) = 23 → (wp_X8_tear T (fun r94 T93 => wp_X9_tear T93 (fun r96 T95 => zR r94 ∧ zR r96 ∧ (r94 = r96 → (b_L_law_994 L xs (h_L_law_18 L xs n) v3 T95)) ∧ (¬ (r94 = r96) → (False)))))) ∧ ((zand (xz xs v3) 31) = 24 → (wp_X8_judge T (fun r98 T97 => wp_X9_judge T97 (fun r100 T99 => zR r98 ∧ zR r100 ∧ (r98 = r100 → (b_L_law_994 L xs (h_L_law_18 L xs n) v3 T99)) ∧ (¬ (r98 = r100) → (False)))))) ∧ ((zand (xz xs v3) 31) = 25 → (0 ≤ (v3 + 1) ∧ (v3 + 1) < L ∧ wp_X8_seed (xz xs (v3 + 1)) T (fun r102 T101 => 0 ≤ (v3 + 1) ∧ (v3 + 1) < L ∧ wp_X9_seed (xz xs (v3 + 1)) T101 (fun r104 T103 => zR r102 ∧ zR r104 ∧ (r102 = r104 → (b_L_law_994 L xs (h_L_law_18 L xs n) v3 T103)) ∧ (¬ (r102 = r104) → (False)))))) ∧ ((zand (xz xs v3) 31) = 26 → (0 ≤ (v3 + 1) ∧ (v3 + 1) < L ∧ wp_X8_keep (xz xs (v3 + 1)) T (fun r106 T105 => 0 ≤ (v3 + 1) ∧ (v3 + 1) < L ∧ wp_X9_keep (xz xs (v3 + 1)) T105 (fun r108 T107 => zR r106 ∧ zR r108 ∧ (r106 = r108 → (b_L_law_994 L xs (h_L_law_18 L xs n) v3 T107)) ∧ (¬ (r106 = r108) → (False)))))) ∧ ((zand (xz xs v3) 31) = 27 → (0 ≤ (v3 + 1) ∧ (v3 + 1) < L ∧ wp_X8_goBack (xz xs (v3 + 1)) T (fun r110 T109 => 0 ≤ (v3 + 1) ∧ (v3 + 1) < L ∧ wp_X9_goBack (xz xs (v3 + 1)) T109 (fun r112 T111 => zR r110 ∧ zR r112 ∧ (r110 = r112 → (b_L_law_994 L xs (h_L_law_18 L xs n) v3 T111)) ∧ (¬ (r110 = r112) → (False)))))) ∧ (¬ (zand (xz xs v3) 31) = 0 → ¬ (zand (xz xs v3) 31) = 1 → ¬ (zand (xz xs v3) 31) = 2 → ¬ (zand (xz xs v3) 31) = 3 → ¬ (zand (xz xs v3) 31) = 4 → ¬ (zand (xz xs v3) 31) = 5 → ¬ (zand (xz xs v3) 31) = 6 → ¬ (zand (xz xs v3) 31) = 7 → ¬ (zand (xz xs v3) 31) = 8 → ¬ (zand (xz xs v3) 31) = 9 → ¬ (zand (xz xs v3) 31) = 10 → ¬ (zand (xz xs v3) 31) = 11 → ¬ (zand (xz xs v3) 31) = 12 → ¬ (zand (xz xs v3) 31) = 13 → ¬ (zand (xz xs v3) 31) = 14 → ¬ (zand (xz xs v3) 31) = 15 → ¬ (zand (xz xs v3) 31) = 16 → ¬ (zand (xz xs v3) 31) = 17 → ¬ (zand (xz xs v3) 31) = 18 → ¬ (zand (xz xs v3) 31) = 19 → ¬ (zand (xz xs v3) 31) = 20 → ¬ (zand (xz xs v3) 31) = 21 → ¬ (zand (xz xs v3) 31) = 22 → ¬ (zand (xz xs v3) 31) = 23 → ¬ (zand (xz xs v3) 31) = 24 → ¬ (zand (xz xs v3) 31) = 25 → ¬ (zand (xz xs v3) 31) = 26 → ¬ (zand (xz xs v3) 31) = 27 → (b_L_law_994 L xs (h_L_law_18 L xs n) v3 T))))
set_option maxRecDepth 100000 in
theorem t_L_law_994 {G : GT} {l0 : Launch} {X : CX} (C : CT G l0 X cL_law 4 RL room_1) {b : Nat} (E : EL G X b) {L : Nat} {xs : Nat → Int32} (S : SX G X b L xs) {K18 : Int → TH → Prop} (k18 : ∀ (v3 : Int) (T : TH), K18 v3 T → V G X T 18 [(0, .ref b), (1, .ref (gad G 0)), (2, .ref (gad G 13)), (3, .int (zI v3))] []) {v3 : Int} {T : TH} (h : b_L_law_994 L xs K18 v3 T) : V G X T 994 [(0, .ref b), (1, .ref (gad G 0)), (2, .ref (gad G 13)), (3, .int (zI v3))] [] := by
  unfold b_L_law_994 at h
  refine v_iinc C 3 dL_law_994 rfl (by decide) ?_
  refine v_goto (tgt := 18) C dL_law_997 (by decide) ?_
  exact v_sub [1, 2, 3, 0] rfl (k18 _ _ h)
set_option maxRecDepth 100000 in
theorem t_L_law_18 {G : GT} {l0 : Launch} {X : CX} (C : CT G l0 X cL_law 4 RL room_1) {b : Nat} (E : EL G X b) {L : Nat} {xs : Nat → Int32} (S : SX G X b L xs) : ∀ (n : Nat) (v3 : Int) (T : TH), h_L_law_18 L xs n v3 T → V G X T 18 [(0, .ref b), (1, .ref (gad G 0)), (2, .ref (gad G 13)), (3, .int (zI v3))] [] := by
  intro n
  induction n with
  | zero =>
    intro v3 T h
    exact h.elim
  | succ n ih =>
    intro v3 T h
    rw [h_L_law_18] at h
    refine v_iload_n C 3 dL_law_18 rfl ?_
    refine v_aload_n C 0 dL_law_19 rfl ?_
    refine v_slen C S dL_law_20 ?_
    refine v_iconst C dL_law_21 ?_
    refine v_isub C dL_law_22 ?_
    obtain ⟨e1, e2, e3, e4⟩ := h
    refine v_icmp_gt (tgt := 1000) C dL_law_23 (by decide) e1 e2 (fun e5 => ?_) (fun e5 => ?_)
    · have h := e3 e5
      refine v_iconst C dL_law_1000 ?_
      exact v_lawret C E dL_law_1001
    · have h := e4 e5
      refine v_aload_n C 0 dL_law_26 rfl ?_
      refine v_iload_n C 3 dL_law_27 rfl ?_
      obtain ⟨e6, e7, h⟩ := h
      refine v_sld C S dL_law_28 e6 e7 ?_
      refine v_bipush C dL_law_29 (by decide) ?_
      refine v_iand C dL_law_31 ?_
      obtain ⟨e8, h⟩ := h
      obtain ⟨e337, e338, e339, e340, e341, e342, e343, e344, e345, e346, e347, e348, e349, e350, e351, e352, e353, e354, e355, e356, e357, e358, e359, e360, e361, e362, e363, e364, e365⟩ := h
      by_cases e367 : (zand (xz xs v3) 31) = 0
      · have h := e337 e367
        refine v_tin (off := 128) (tgt := 160) C dL_law_32 e8 0 e367 (by decide) (by decide) (by decide) (by decide) ?_
        refine v_aload_n C 1 dL_law_160 rfl ?_
        refine v_aload_n C 0 dL_law_161 rfl ?_
        refine v_iload_n C 3 dL_law_162 rfl ?_
        refine v_iconst C dL_law_163 ?_
        refine v_iadd C dL_law_164 ?_
        obtain ⟨e9, e10, h⟩ := h
        refine v_sld C S dL_law_165 e9 e10 ?_
        refine v_cVI C kX8 rfl (s_X8_feed G l0 h) mv_X8_feed wd_354 ⟨by decide, by decide⟩ rfl rfl (Nat.le_of_ble_eq_true rfl) dL_law_166 (fun r2 T1 h => ?_)
        refine v_aload_n C 2 dL_law_169 rfl ?_
        refine v_aload_n C 0 dL_law_170 rfl ?_
        refine v_iload_n C 3 dL_law_171 rfl ?_
        refine v_iconst C dL_law_172 ?_
        refine v_iadd C dL_law_173 ?_
        obtain ⟨e11, e12, h⟩ := h
        refine v_sld C S dL_law_174 e11 e12 ?_
        refine v_cVI C kX9 rfl (s_X9_feed G l0 h) mv_X9_feed wd_933 ⟨by decide, by decide⟩ rfl rfl (Nat.le_of_ble_eq_true rfl) dL_law_175 (fun r4 T3 h => ?_)
        obtain ⟨e13, e14, e15, e16⟩ := h
        refine v_icmp_eq (tgt := 994) C dL_law_178 (by decide) e13 e14 (fun e17 => ?_) (fun e17 => ?_)
        · have h := e15 e17
          exact v_sub [0, 1, 2, 3] rfl (t_L_law_994 C E S ih h)
        · have h := e16 e17
          refine v_iconst C dL_law_181 ?_
          exact h.elim
      by_cases e368 : (zand (xz xs v3) 31) = 1
      · have h := e338 e368
        refine v_tin (off := 151) (tgt := 183) C dL_law_32 e8 1 e368 (by decide) (by decide) (by decide) (by decide) ?_
        refine v_aload_n C 1 dL_law_183 rfl ?_
        refine v_cVI C kX8 rfl (s_X8_land G l0 h) mv_X8_land wd_364 ⟨by decide, by decide⟩ rfl rfl (Nat.le_of_ble_eq_true rfl) dL_law_184 (fun r6 T5 h => ?_)
        refine v_aload_n C 2 dL_law_187 rfl ?_
        refine v_cVI C kX9 rfl (s_X9_land G l0 h) mv_X9_land wd_942 ⟨by decide, by decide⟩ rfl rfl (Nat.le_of_ble_eq_true rfl) dL_law_188 (fun r8 T7 h => ?_)
        obtain ⟨e18, e19, e20, e21⟩ := h
        refine v_icmp_eq (tgt := 994) C dL_law_191 (by decide) e18 e19 (fun e22 => ?_) (fun e22 => ?_)
        · have h := e20 e22
          exact v_sub [0, 1, 2, 3] rfl (t_L_law_994 C E S ih h)
        · have h := e21 e22
          refine v_iconst C dL_law_194 ?_
          exact h.elim
      by_cases e369 : (zand (xz xs v3) 31) = 2
      · have h := e339 e369
        refine v_tin (off := 164) (tgt := 196) C dL_law_32 e8 2 e369 (by decide) (by decide) (by decide) (by decide) ?_
        refine v_aload_n C 1 dL_law_196 rfl ?_
        refine v_cVI C kX8 rfl (s_X8_fault G l0 h) mv_X8_fault wd_463 ⟨by decide, by decide⟩ rfl rfl (Nat.le_of_ble_eq_true rfl) dL_law_197 (fun r10 T9 h => ?_)
        refine v_aload_n C 2 dL_law_200 rfl ?_
        refine v_cVI C kX9 rfl (s_X9_fault G l0 h) mv_X9_fault wd_997 ⟨by decide, by decide⟩ rfl rfl (Nat.le_of_ble_eq_true rfl) dL_law_201 (fun r12 T11 h => ?_)
        obtain ⟨e23, e24, e25, e26⟩ := h
        refine v_icmp_eq (tgt := 994) C dL_law_204 (by decide) e23 e24 (fun e27 => ?_) (fun e27 => ?_)
        · have h := e25 e27
          exact v_sub [0, 1, 2, 3] rfl (t_L_law_994 C E S ih h)
        · have h := e26 e27
          refine v_iconst C dL_law_207 ?_
          exact h.elim
      by_cases e370 : (zand (xz xs v3) 31) = 3
      · have h := e340 e370
        refine v_tin (off := 177) (tgt := 209) C dL_law_32 e8 3 e370 (by decide) (by decide) (by decide) (by decide) ?_
        refine v_aload_n C 1 dL_law_209 rfl ?_
        refine v_aload_n C 0 dL_law_210 rfl ?_
        refine v_iload_n C 3 dL_law_211 rfl ?_
        refine v_iconst C dL_law_212 ?_
        refine v_iadd C dL_law_213 ?_
        obtain ⟨e28, e29, h⟩ := h
        refine v_sld C S dL_law_214 e28 e29 ?_
        refine v_cVI C kX8 rfl (s_X8_told G l0 h) mv_X8_told wd_467 ⟨by decide, by decide⟩ rfl rfl (Nat.le_of_ble_eq_true rfl) dL_law_215 (fun r14 T13 h => ?_)
        refine v_aload_n C 2 dL_law_218 rfl ?_
        refine v_aload_n C 0 dL_law_219 rfl ?_
        refine v_iload_n C 3 dL_law_220 rfl ?_
        refine v_iconst C dL_law_221 ?_
        refine v_iadd C dL_law_222 ?_
        obtain ⟨e30, e31, h⟩ := h
        refine v_sld C S dL_law_223 e30 e31 ?_
        refine v_cVI C kX9 rfl (s_X9_told G l0 h) mv_X9_told wd_1001 ⟨by decide, by decide⟩ rfl rfl (Nat.le_of_ble_eq_true rfl) dL_law_224 (fun r16 T15 h => ?_)
        obtain ⟨e32, e33, e34, e35⟩ := h
        refine v_icmp_eq (tgt := 994) C dL_law_227 (by decide) e32 e33 (fun e36 => ?_) (fun e36 => ?_)
        · have h := e34 e36
          exact v_sub [0, 1, 2, 3] rfl (t_L_law_994 C E S ih h)
        · have h := e35 e36
          refine v_iconst C dL_law_230 ?_
          exact h.elim
      by_cases e371 : (zand (xz xs v3) 31) = 4
      · have h := e341 e371
        refine v_tin (off := 200) (tgt := 232) C dL_law_32 e8 4 e371 (by decide) (by decide) (by decide) (by decide) ?_
        refine v_aload_n C 1 dL_law_232 rfl ?_
        refine v_aload_n C 0 dL_law_233 rfl ?_
        refine v_iload_n C 3 dL_law_234 rfl ?_
        refine v_iconst C dL_law_235 ?_
        refine v_iadd C dL_law_236 ?_
        obtain ⟨e37, e38, h⟩ := h
        refine v_sld C S dL_law_237 e37 e38 ?_
        refine v_aload_n C 0 dL_law_238 rfl ?_
        refine v_iload_n C 3 dL_law_239 rfl ?_
        refine v_iconst C dL_law_240 ?_
        refine v_iadd C dL_law_241 ?_
        obtain ⟨e39, e40, h⟩ := h
        refine v_sld C S dL_law_242 e39 e40 ?_
        refine v_cVI C kX8 rfl (s_X8_fact G l0 h) mv_X8_fact wd_485 ⟨by decide, by decide⟩ rfl rfl (Nat.le_of_ble_eq_true rfl) dL_law_243 (fun r18 T17 h => ?_)
        refine v_aload_n C 2 dL_law_246 rfl ?_
        refine v_aload_n C 0 dL_law_247 rfl ?_
        refine v_iload_n C 3 dL_law_248 rfl ?_
        refine v_iconst C dL_law_249 ?_
        refine v_iadd C dL_law_250 ?_
        obtain ⟨e41, e42, h⟩ := h
        refine v_sld C S dL_law_251 e41 e42 ?_
        refine v_aload_n C 0 dL_law_252 rfl ?_
        refine v_iload_n C 3 dL_law_253 rfl ?_
        refine v_iconst C dL_law_254 ?_
        refine v_iadd C dL_law_255 ?_
        obtain ⟨e43, e44, h⟩ := h
        refine v_sld C S dL_law_256 e43 e44 ?_
        refine v_cVI C kX9 rfl (s_X9_fact G l0 h) mv_X9_fact wd_1016 ⟨by decide, by decide⟩ rfl rfl (Nat.le_of_ble_eq_true rfl) dL_law_257 (fun r20 T19 h => ?_)
        obtain ⟨e45, e46, e47, e48⟩ := h
        refine v_icmp_eq (tgt := 994) C dL_law_260 (by decide) e45 e46 (fun e49 => ?_) (fun e49 => ?_)
        · have h := e47 e49
          exact v_sub [0, 1, 2, 3] rfl (t_L_law_994 C E S ih h)
        · have h := e48 e49
          refine v_iconst C dL_law_263 ?_
          exact h.elim
      by_cases e372 : (zand (xz xs v3) 31) = 5
      · have h := e342 e372
        refine v_tin (off := 233) (tgt := 265) C dL_law_32 e8 5 e372 (by decide) (by decide) (by decide) (by decide) ?_
        refine v_aload_n C 1 dL_law_265 rfl ?_
        refine v_aload_n C 0 dL_law_266 rfl ?_
        refine v_iload_n C 3 dL_law_267 rfl ?_
        refine v_iconst C dL_law_268 ?_
        refine v_iadd C dL_law_269 ?_
        obtain ⟨e50, e51, h⟩ := h
        refine v_sld C S dL_law_270 e50 e51 ?_
        refine v_aload_n C 0 dL_law_271 rfl ?_
        refine v_iload_n C 3 dL_law_272 rfl ?_
        refine v_iconst C dL_law_273 ?_
        refine v_iadd C dL_law_274 ?_
        obtain ⟨e52, e53, h⟩ := h
        refine v_sld C S dL_law_275 e52 e53 ?_
        refine v_cVI C kX8 rfl (s_X8_person G l0 h) mv_X8_person wd_499 ⟨by decide, by decide⟩ rfl rfl (Nat.le_of_ble_eq_true rfl) dL_law_276 (fun r22 T21 h => ?_)
        refine v_aload_n C 2 dL_law_279 rfl ?_
        refine v_aload_n C 0 dL_law_280 rfl ?_
        refine v_iload_n C 3 dL_law_281 rfl ?_
        refine v_iconst C dL_law_282 ?_
        refine v_iadd C dL_law_283 ?_
        obtain ⟨e54, e55, h⟩ := h
        refine v_sld C S dL_law_284 e54 e55 ?_
        refine v_aload_n C 0 dL_law_285 rfl ?_
        refine v_iload_n C 3 dL_law_286 rfl ?_
        refine v_iconst C dL_law_287 ?_
        refine v_iadd C dL_law_288 ?_
        obtain ⟨e56, e57, h⟩ := h
        refine v_sld C S dL_law_289 e56 e57 ?_
        refine v_cVI C kX9 rfl (s_X9_person G l0 h) mv_X9_person wd_1029 ⟨by decide, by decide⟩ rfl rfl (Nat.le_of_ble_eq_true rfl) dL_law_290 (fun r24 T23 h => ?_)
        obtain ⟨e58, e59, e60, e61⟩ := h
        refine v_icmp_eq (tgt := 994) C dL_law_293 (by decide) e58 e59 (fun e62 => ?_) (fun e62 => ?_)
        · have h := e60 e62
          exact v_sub [0, 1, 2, 3] rfl (t_L_law_994 C E S ih h)
        · have h := e61 e62
          refine v_iconst C dL_law_296 ?_
          exact h.elim
      by_cases e373 : (zand (xz xs v3) 31) = 6
      · have h := e343 e373
        refine v_tin (off := 266) (tgt := 298) C dL_law_32 e8 6 e373 (by decide) (by decide) (by decide) (by decide) ?_
        refine v_aload_n C 1 dL_law_298 rfl ?_
        refine v_aload_n C 0 dL_law_299 rfl ?_
        refine v_iload_n C 3 dL_law_300 rfl ?_
        refine v_iconst C dL_law_301 ?_
        refine v_iadd C dL_law_302 ?_
        obtain ⟨e63, e64, h⟩ := h
        refine v_sld C S dL_law_303 e63 e64 ?_
        refine v_aload_n C 0 dL_law_304 rfl ?_
        refine v_iload_n C 3 dL_law_305 rfl ?_
        refine v_iconst C dL_law_306 ?_
        refine v_iadd C dL_law_307 ?_
        obtain ⟨e65, e66, h⟩ := h
        refine v_sld C S dL_law_308 e65 e66 ?_
        refine v_cVI C kX8 rfl (s_X8_since G l0 h) mv_X8_since wd_512 ⟨by decide, by decide⟩ rfl rfl (Nat.le_of_ble_eq_true rfl) dL_law_309 (fun r26 T25 h => ?_)
        refine v_aload_n C 2 dL_law_312 rfl ?_
        refine v_aload_n C 0 dL_law_313 rfl ?_
        refine v_iload_n C 3 dL_law_314 rfl ?_
        refine v_iconst C dL_law_315 ?_
        refine v_iadd C dL_law_316 ?_
        obtain ⟨e67, e68, h⟩ := h
        refine v_sld C S dL_law_317 e67 e68 ?_
        refine v_aload_n C 0 dL_law_318 rfl ?_
        refine v_iload_n C 3 dL_law_319 rfl ?_
        refine v_iconst C dL_law_320 ?_
        refine v_iadd C dL_law_321 ?_
        obtain ⟨e69, e70, h⟩ := h
        refine v_sld C S dL_law_322 e69 e70 ?_
        refine v_cVI C kX9 rfl (s_X9_since G l0 h) mv_X9_since wd_1041 ⟨by decide, by decide⟩ rfl rfl (Nat.le_of_ble_eq_true rfl) dL_law_323 (fun r28 T27 h => ?_)
        obtain ⟨e71, e72, e73, e74⟩ := h
        refine v_icmp_eq (tgt := 994) C dL_law_326 (by decide) e71 e72 (fun e75 => ?_) (fun e75 => ?_)
        · have h := e73 e75
          exact v_sub [0, 1, 2, 3] rfl (t_L_law_994 C E S ih h)
        · have h := e74 e75
          refine v_iconst C dL_law_329 ?_
          exact h.elim
      by_cases e374 : (zand (xz xs v3) 31) = 7
      · have h := e344 e374
        refine v_tin (off := 299) (tgt := 331) C dL_law_32 e8 7 e374 (by decide) (by decide) (by decide) (by decide) ?_
        refine v_aload_n C 1 dL_law_331 rfl ?_
        refine v_aload_n C 0 dL_law_332 rfl ?_
        refine v_iload_n C 3 dL_law_333 rfl ?_
        refine v_iconst C dL_law_334 ?_
        refine v_iadd C dL_law_335 ?_
        obtain ⟨e76, e77, h⟩ := h
        refine v_sld C S dL_law_336 e76 e77 ?_
        refine v_cVI C kX8 rfl (s_X8_weight G l0 h) mv_X8_weight wd_524 ⟨by decide, by decide⟩ rfl rfl (Nat.le_of_ble_eq_true rfl) dL_law_337 (fun r30 T29 h => ?_)
        refine v_aload_n C 2 dL_law_340 rfl ?_
        refine v_aload_n C 0 dL_law_341 rfl ?_
        refine v_iload_n C 3 dL_law_342 rfl ?_
        refine v_iconst C dL_law_343 ?_
        refine v_iadd C dL_law_344 ?_
        obtain ⟨e78, e79, h⟩ := h
        refine v_sld C S dL_law_345 e78 e79 ?_
        refine v_cVI C kX9 rfl (s_X9_weight G l0 h) mv_X9_weight wd_1045 ⟨by decide, by decide⟩ rfl rfl (Nat.le_of_ble_eq_true rfl) dL_law_346 (fun r32 T31 h => ?_)
        obtain ⟨e80, e81, e82, e83⟩ := h
        refine v_icmp_eq (tgt := 994) C dL_law_349 (by decide) e80 e81 (fun e84 => ?_) (fun e84 => ?_)
        · have h := e82 e84
          exact v_sub [0, 1, 2, 3] rfl (t_L_law_994 C E S ih h)
        · have h := e83 e84
          refine v_iconst C dL_law_352 ?_
          exact h.elim
      by_cases e375 : (zand (xz xs v3) 31) = 8
      · have h := e345 e375
        refine v_tin (off := 322) (tgt := 354) C dL_law_32 e8 8 e375 (by decide) (by decide) (by decide) (by decide) ?_
        refine v_aload_n C 1 dL_law_354 rfl ?_
        refine v_aload_n C 0 dL_law_355 rfl ?_
        refine v_iload_n C 3 dL_law_356 rfl ?_
        refine v_iconst C dL_law_357 ?_
        refine v_iadd C dL_law_358 ?_
        obtain ⟨e85, e86, h⟩ := h
        refine v_sld C S dL_law_359 e85 e86 ?_
        refine v_cVI C kX8 rfl (s_X8_bridge G l0 h) mv_X8_bridge wd_536 ⟨by decide, by decide⟩ rfl rfl (Nat.le_of_ble_eq_true rfl) dL_law_360 (fun r34 T33 h => ?_)
        refine v_aload_n C 2 dL_law_363 rfl ?_
        refine v_aload_n C 0 dL_law_364 rfl ?_
        refine v_iload_n C 3 dL_law_365 rfl ?_
        refine v_iconst C dL_law_366 ?_
        refine v_iadd C dL_law_367 ?_
        obtain ⟨e87, e88, h⟩ := h
        refine v_sld C S dL_law_368 e87 e88 ?_
        refine v_cVI C kX9 rfl (s_X9_bridge G l0 h) mv_X9_bridge wd_1061 ⟨by decide, by decide⟩ rfl rfl (Nat.le_of_ble_eq_true rfl) dL_law_369 (fun r36 T35 h => ?_)
        obtain ⟨e89, e90, e91, e92⟩ := h
        refine v_icmp_eq (tgt := 994) C dL_law_372 (by decide) e89 e90 (fun e93 => ?_) (fun e93 => ?_)
        · have h := e91 e93
          exact v_sub [0, 1, 2, 3] rfl (t_L_law_994 C E S ih h)
        · have h := e92 e93
          refine v_iconst C dL_law_375 ?_
          exact h.elim
      by_cases e376 : (zand (xz xs v3) 31) = 9
      · have h := e346 e376
        refine v_tin (off := 345) (tgt := 377) C dL_law_32 e8 9 e376 (by decide) (by decide) (by decide) (by decide) ?_
        refine v_aload_n C 1 dL_law_377 rfl ?_
        refine v_aload_n C 0 dL_law_378 rfl ?_
        refine v_iload_n C 3 dL_law_379 rfl ?_
        refine v_iconst C dL_law_380 ?_
        refine v_iadd C dL_law_381 ?_
        obtain ⟨e94, e95, h⟩ := h
        refine v_sld C S dL_law_382 e94 e95 ?_
        refine v_aload_n C 0 dL_law_383 rfl ?_
        refine v_iload_n C 3 dL_law_384 rfl ?_
        refine v_iconst C dL_law_385 ?_
        refine v_iadd C dL_law_386 ?_
        obtain ⟨e96, e97, h⟩ := h
        refine v_sld C S dL_law_387 e96 e97 ?_
        refine v_cVI C kX8 rfl (s_X8_tell G l0 h) mv_X8_tell wd_544 ⟨by decide, by decide⟩ rfl rfl (Nat.le_of_ble_eq_true rfl) dL_law_388 (fun r38 T37 h => ?_)
        refine v_aload_n C 2 dL_law_391 rfl ?_
        refine v_aload_n C 0 dL_law_392 rfl ?_
        refine v_iload_n C 3 dL_law_393 rfl ?_
        refine v_iconst C dL_law_394 ?_
        refine v_iadd C dL_law_395 ?_
        obtain ⟨e98, e99, h⟩ := h
        refine v_sld C S dL_law_396 e98 e99 ?_
        refine v_aload_n C 0 dL_law_397 rfl ?_
        refine v_iload_n C 3 dL_law_398 rfl ?_
        refine v_iconst C dL_law_399 ?_
        refine v_iadd C dL_law_400 ?_
        obtain ⟨e100, e101, h⟩ := h
        refine v_sld C S dL_law_401 e100 e101 ?_
        refine v_cVI C kX9 rfl (s_X9_tell G l0 h) mv_X9_tell wd_1069 ⟨by decide, by decide⟩ rfl rfl (Nat.le_of_ble_eq_true rfl) dL_law_402 (fun r40 T39 h => ?_)
        obtain ⟨e102, e103, e104, e105⟩ := h
        refine v_icmp_eq (tgt := 994) C dL_law_405 (by decide) e102 e103 (fun e106 => ?_) (fun e106 => ?_)
        · have h := e104 e106
          exact v_sub [0, 1, 2, 3] rfl (t_L_law_994 C E S ih h)
        · have h := e105 e106
          refine v_iconst C dL_law_408 ?_
          exact h.elim
      by_cases e377 : (zand (xz xs v3) 31) = 10
      · have h := e347 e377
        refine v_tin (off := 378) (tgt := 410) C dL_law_32 e8 10 e377 (by decide) (by decide) (by decide) (by decide) ?_
        refine v_aload_n C 1 dL_law_410 rfl ?_
        refine v_aload_n C 0 dL_law_411 rfl ?_
        refine v_iload_n C 3 dL_law_412 rfl ?_
        refine v_iconst C dL_law_413 ?_
        refine v_iadd C dL_law_414 ?_
        obtain ⟨e107, e108, h⟩ := h
        refine v_sld C S dL_law_415 e107 e108 ?_
        refine v_aload_n C 0 dL_law_416 rfl ?_
        refine v_iload_n C 3 dL_law_417 rfl ?_
        refine v_iconst C dL_law_418 ?_
        refine v_iadd C dL_law_419 ?_
        obtain ⟨e109, e110, h⟩ := h
        refine v_sld C S dL_law_420 e109 e110 ?_
        refine v_cVI C kX8 rfl (s_X8_forget G l0 h) mv_X8_forget wd_553 ⟨by decide, by decide⟩ rfl rfl (Nat.le_of_ble_eq_true rfl) dL_law_421 (fun r42 T41 h => ?_)
        refine v_aload_n C 2 dL_law_424 rfl ?_
        refine v_aload_n C 0 dL_law_425 rfl ?_
        refine v_iload_n C 3 dL_law_426 rfl ?_
        refine v_iconst C dL_law_427 ?_
        refine v_iadd C dL_law_428 ?_
        obtain ⟨e111, e112, h⟩ := h
        refine v_sld C S dL_law_429 e111 e112 ?_
        refine v_aload_n C 0 dL_law_430 rfl ?_
        refine v_iload_n C 3 dL_law_431 rfl ?_
        refine v_iconst C dL_law_432 ?_
        refine v_iadd C dL_law_433 ?_
        obtain ⟨e113, e114, h⟩ := h
        refine v_sld C S dL_law_434 e113 e114 ?_
        refine v_cVI C kX9 rfl (s_X9_forget G l0 h) mv_X9_forget wd_1074 ⟨by decide, by decide⟩ rfl rfl (Nat.le_of_ble_eq_true rfl) dL_law_435 (fun r44 T43 h => ?_)
        obtain ⟨e115, e116, e117, e118⟩ := h
        refine v_icmp_eq (tgt := 994) C dL_law_438 (by decide) e115 e116 (fun e119 => ?_) (fun e119 => ?_)
        · have h := e117 e119
          exact v_sub [0, 1, 2, 3] rfl (t_L_law_994 C E S ih h)
        · have h := e118 e119
          refine v_iconst C dL_law_441 ?_
          exact h.elim
      by_cases e378 : (zand (xz xs v3) 31) = 11
      · have h := e348 e378
        refine v_tin (off := 411) (tgt := 443) C dL_law_32 e8 11 e378 (by decide) (by decide) (by decide) (by decide) ?_
        refine v_aload_n C 1 dL_law_443 rfl ?_
        refine v_aload_n C 0 dL_law_444 rfl ?_
        refine v_iload_n C 3 dL_law_445 rfl ?_
        refine v_iconst C dL_law_446 ?_
        refine v_iadd C dL_law_447 ?_
        obtain ⟨e120, e121, h⟩ := h
        refine v_sld C S dL_law_448 e120 e121 ?_
        refine v_cVI C kX8 rfl (s_X8_hour G l0 h) mv_X8_hour wd_561 ⟨by decide, by decide⟩ rfl rfl (Nat.le_of_ble_eq_true rfl) dL_law_449 (fun r46 T45 h => ?_)
        refine v_aload_n C 2 dL_law_452 rfl ?_
        refine v_aload_n C 0 dL_law_453 rfl ?_
        refine v_iload_n C 3 dL_law_454 rfl ?_
        refine v_iconst C dL_law_455 ?_
        refine v_iadd C dL_law_456 ?_
        obtain ⟨e122, e123, h⟩ := h
        refine v_sld C S dL_law_457 e122 e123 ?_
        refine v_cVI C kX9 rfl (s_X9_hour G l0 h) mv_X9_hour wd_1078 ⟨by decide, by decide⟩ rfl rfl (Nat.le_of_ble_eq_true rfl) dL_law_458 (fun r48 T47 h => ?_)
        obtain ⟨e124, e125, e126, e127⟩ := h
        refine v_icmp_eq (tgt := 994) C dL_law_461 (by decide) e124 e125 (fun e128 => ?_) (fun e128 => ?_)
        · have h := e126 e128
          exact v_sub [0, 1, 2, 3] rfl (t_L_law_994 C E S ih h)
        · have h := e127 e128
          refine v_iconst C dL_law_464 ?_
          exact h.elim
      by_cases e379 : (zand (xz xs v3) 31) = 12
      · have h := e349 e379
        refine v_tin (off := 434) (tgt := 466) C dL_law_32 e8 12 e379 (by decide) (by decide) (by decide) (by decide) ?_
        refine v_aload_n C 1 dL_law_466 rfl ?_
        refine v_aload_n C 0 dL_law_467 rfl ?_
        refine v_iload_n C 3 dL_law_468 rfl ?_
        refine v_iconst C dL_law_469 ?_
        refine v_iadd C dL_law_470 ?_
        obtain ⟨e129, e130, h⟩ := h
        refine v_sld C S dL_law_471 e129 e130 ?_
        refine v_cVI C kX8 rfl (s_X8_drift G l0 h) mv_X8_drift wd_592 ⟨by decide, by decide⟩ rfl rfl (Nat.le_of_ble_eq_true rfl) dL_law_472 (fun r50 T49 h => ?_)
        refine v_aload_n C 2 dL_law_475 rfl ?_
        refine v_aload_n C 0 dL_law_476 rfl ?_
        refine v_iload_n C 3 dL_law_477 rfl ?_
        refine v_iconst C dL_law_478 ?_
        refine v_iadd C dL_law_479 ?_
        obtain ⟨e131, e132, h⟩ := h
        refine v_sld C S dL_law_480 e131 e132 ?_
        refine v_cVI C kX9 rfl (s_X9_drift G l0 h) mv_X9_drift wd_1098 ⟨by decide, by decide⟩ rfl rfl (Nat.le_of_ble_eq_true rfl) dL_law_481 (fun r52 T51 h => ?_)
        obtain ⟨e133, e134, e135, e136⟩ := h
        refine v_icmp_eq (tgt := 994) C dL_law_484 (by decide) e133 e134 (fun e137 => ?_) (fun e137 => ?_)
        · have h := e135 e137
          exact v_sub [0, 1, 2, 3] rfl (t_L_law_994 C E S ih h)
        · have h := e136 e137
          refine v_iconst C dL_law_487 ?_
          exact h.elim
      by_cases e380 : (zand (xz xs v3) 31) = 13
      · have h := e350 e380
        refine v_tin (off := 457) (tgt := 489) C dL_law_32 e8 13 e380 (by decide) (by decide) (by decide) (by decide) ?_
        refine v_aload_n C 1 dL_law_489 rfl ?_
        refine v_aload_n C 0 dL_law_490 rfl ?_
        refine v_iload_n C 3 dL_law_491 rfl ?_
        refine v_iconst C dL_law_492 ?_
        refine v_iadd C dL_law_493 ?_
        obtain ⟨e138, e139, h⟩ := h
        refine v_sld C S dL_law_494 e138 e139 ?_
        refine v_aload_n C 0 dL_law_495 rfl ?_
        refine v_iload_n C 3 dL_law_496 rfl ?_
        refine v_iconst C dL_law_497 ?_
        refine v_iadd C dL_law_498 ?_
        obtain ⟨e140, e141, h⟩ := h
        refine v_sld C S dL_law_499 e140 e141 ?_
        refine v_cVI C kX8 rfl (s_X8_heavy G l0 h) mv_X8_heavy wd_608 ⟨by decide, by decide⟩ rfl rfl (Nat.le_of_ble_eq_true rfl) dL_law_500 (fun r54 T53 h => ?_)
        refine v_aload_n C 2 dL_law_503 rfl ?_
        refine v_aload_n C 0 dL_law_504 rfl ?_
        refine v_iload_n C 3 dL_law_505 rfl ?_
        refine v_iconst C dL_law_506 ?_
        refine v_iadd C dL_law_507 ?_
        obtain ⟨e142, e143, h⟩ := h
        refine v_sld C S dL_law_508 e142 e143 ?_
        refine v_aload_n C 0 dL_law_509 rfl ?_
        refine v_iload_n C 3 dL_law_510 rfl ?_
        refine v_iconst C dL_law_511 ?_
        refine v_iadd C dL_law_512 ?_
        obtain ⟨e144, e145, h⟩ := h
        refine v_sld C S dL_law_513 e144 e145 ?_
        refine v_cVI C kX9 rfl (s_X9_heavy G l0 h) mv_X9_heavy wd_1110 ⟨by decide, by decide⟩ rfl rfl (Nat.le_of_ble_eq_true rfl) dL_law_514 (fun r56 T55 h => ?_)
        obtain ⟨e146, e147, e148, e149⟩ := h
        refine v_icmp_eq (tgt := 994) C dL_law_517 (by decide) e146 e147 (fun e150 => ?_) (fun e150 => ?_)
        · have h := e148 e150
          exact v_sub [0, 1, 2, 3] rfl (t_L_law_994 C E S ih h)
        · have h := e149 e150
          refine v_iconst C dL_law_520 ?_
          exact h.elim
      by_cases e381 : (zand (xz xs v3) 31) = 14
      · have h := e351 e381
        refine v_tin (off := 490) (tgt := 522) C dL_law_32 e8 14 e381 (by decide) (by decide) (by decide) (by decide) ?_
        refine v_aload_n C 1 dL_law_522 rfl ?_
        refine v_aload_n C 0 dL_law_523 rfl ?_
        refine v_iload_n C 3 dL_law_524 rfl ?_
        refine v_iconst C dL_law_525 ?_
        refine v_iadd C dL_law_526 ?_
        obtain ⟨e151, e152, h⟩ := h
        refine v_sld C S dL_law_527 e151 e152 ?_
        refine v_aload_n C 0 dL_law_528 rfl ?_
        refine v_iload_n C 3 dL_law_529 rfl ?_
        refine v_iconst C dL_law_530 ?_
        refine v_iadd C dL_law_531 ?_
        obtain ⟨e153, e154, h⟩ := h
        refine v_sld C S dL_law_532 e153 e154 ?_
        refine v_cVI C kX8 rfl (s_X8_when G l0 h) mv_X8_when wd_619 ⟨by decide, by decide⟩ rfl rfl (Nat.le_of_ble_eq_true rfl) dL_law_533 (fun r58 T57 h => ?_)
        refine v_aload_n C 2 dL_law_536 rfl ?_
        refine v_aload_n C 0 dL_law_537 rfl ?_
        refine v_iload_n C 3 dL_law_538 rfl ?_
        refine v_iconst C dL_law_539 ?_
        refine v_iadd C dL_law_540 ?_
        obtain ⟨e155, e156, h⟩ := h
        refine v_sld C S dL_law_541 e155 e156 ?_
        refine v_aload_n C 0 dL_law_542 rfl ?_
        refine v_iload_n C 3 dL_law_543 rfl ?_
        refine v_iconst C dL_law_544 ?_
        refine v_iadd C dL_law_545 ?_
        obtain ⟨e157, e158, h⟩ := h
        refine v_sld C S dL_law_546 e157 e158 ?_
        refine v_cVI C kX9 rfl (s_X9_when G l0 h) mv_X9_when wd_1114 ⟨by decide, by decide⟩ rfl rfl (Nat.le_of_ble_eq_true rfl) dL_law_547 (fun r60 T59 h => ?_)
        obtain ⟨e159, e160, e161, e162⟩ := h
        refine v_icmp_eq (tgt := 994) C dL_law_550 (by decide) e159 e160 (fun e163 => ?_) (fun e163 => ?_)
        · have h := e161 e163
          exact v_sub [0, 1, 2, 3] rfl (t_L_law_994 C E S ih h)
        · have h := e162 e163
          refine v_iconst C dL_law_553 ?_
          exact h.elim
      by_cases e382 : (zand (xz xs v3) 31) = 15
      · have h := e352 e382
        refine v_tin (off := 523) (tgt := 555) C dL_law_32 e8 15 e382 (by decide) (by decide) (by decide) (by decide) ?_
        refine v_aload_n C 1 dL_law_555 rfl ?_
        refine v_aload_n C 0 dL_law_556 rfl ?_
        refine v_iload_n C 3 dL_law_557 rfl ?_
        refine v_iconst C dL_law_558 ?_
        refine v_iadd C dL_law_559 ?_
        obtain ⟨e164, e165, h⟩ := h
        refine v_sld C S dL_law_560 e164 e165 ?_
        refine v_aload_n C 0 dL_law_561 rfl ?_
        refine v_iload_n C 3 dL_law_562 rfl ?_
        refine v_iconst C dL_law_563 ?_
        refine v_iadd C dL_law_564 ?_
        obtain ⟨e166, e167, h⟩ := h
        refine v_sld C S dL_law_565 e166 e167 ?_
        refine v_aload_n C 0 dL_law_566 rfl ?_
        refine v_iload_n C 3 dL_law_567 rfl ?_
        refine v_iconst C dL_law_568 ?_
        refine v_iadd C dL_law_569 ?_
        obtain ⟨e168, e169, h⟩ := h
        refine v_sld C S dL_law_570 e168 e169 ?_
        refine v_cVI C kX8 rfl (s_X8_least G l0 h) mv_X8_least wd_623 ⟨by decide, by decide⟩ rfl rfl (Nat.le_of_ble_eq_true rfl) dL_law_571 (fun r62 T61 h => ?_)
        refine v_aload_n C 2 dL_law_574 rfl ?_
        refine v_aload_n C 0 dL_law_575 rfl ?_
        refine v_iload_n C 3 dL_law_576 rfl ?_
        refine v_iconst C dL_law_577 ?_
        refine v_iadd C dL_law_578 ?_
        obtain ⟨e170, e171, h⟩ := h
        refine v_sld C S dL_law_579 e170 e171 ?_
        refine v_aload_n C 0 dL_law_580 rfl ?_
        refine v_iload_n C 3 dL_law_581 rfl ?_
        refine v_iconst C dL_law_582 ?_
        refine v_iadd C dL_law_583 ?_
        obtain ⟨e172, e173, h⟩ := h
        refine v_sld C S dL_law_584 e172 e173 ?_
        refine v_aload_n C 0 dL_law_585 rfl ?_
        refine v_iload_n C 3 dL_law_586 rfl ?_
        refine v_iconst C dL_law_587 ?_
        refine v_iadd C dL_law_588 ?_
        obtain ⟨e174, e175, h⟩ := h
        refine v_sld C S dL_law_589 e174 e175 ?_
        refine v_cVI C kX9 rfl (s_X9_least G l0 h) mv_X9_least wd_1118 ⟨by decide, by decide⟩ rfl rfl (Nat.le_of_ble_eq_true rfl) dL_law_590 (fun r64 T63 h => ?_)
        obtain ⟨e176, e177, e178, e179⟩ := h
        refine v_icmp_eq (tgt := 994) C dL_law_593 (by decide) e176 e177 (fun e180 => ?_) (fun e180 => ?_)
        · have h := e178 e180
          exact v_sub [0, 1, 2, 3] rfl (t_L_law_994 C E S ih h)
        · have h := e179 e180
          refine v_iconst C dL_law_596 ?_
          exact h.elim
      by_cases e383 : (zand (xz xs v3) 31) = 16
      · have h := e353 e383
        refine v_tin (off := 566) (tgt := 598) C dL_law_32 e8 16 e383 (by decide) (by decide) (by decide) (by decide) ?_
        refine v_aload_n C 1 dL_law_598 rfl ?_
        refine v_aload_n C 0 dL_law_599 rfl ?_
        refine v_iload_n C 3 dL_law_600 rfl ?_
        refine v_iconst C dL_law_601 ?_
        refine v_iadd C dL_law_602 ?_
        obtain ⟨e181, e182, h⟩ := h
        refine v_sld C S dL_law_603 e181 e182 ?_
        refine v_aload_n C 0 dL_law_604 rfl ?_
        refine v_iload_n C 3 dL_law_605 rfl ?_
        refine v_iconst C dL_law_606 ?_
        refine v_iadd C dL_law_607 ?_
        obtain ⟨e183, e184, h⟩ := h
        refine v_sld C S dL_law_608 e183 e184 ?_
        refine v_aload_n C 0 dL_law_609 rfl ?_
        refine v_iload_n C 3 dL_law_610 rfl ?_
        refine v_iconst C dL_law_611 ?_
        refine v_iadd C dL_law_612 ?_
        obtain ⟨e185, e186, h⟩ := h
        refine v_sld C S dL_law_613 e185 e186 ?_
        refine v_cVI C kX8 rfl (s_X8_trips G l0 h) mv_X8_trips wd_645 ⟨by decide, by decide⟩ rfl rfl (Nat.le_of_ble_eq_true rfl) dL_law_614 (fun r66 T65 h => ?_)
        refine v_aload_n C 2 dL_law_617 rfl ?_
        refine v_aload_n C 0 dL_law_618 rfl ?_
        refine v_iload_n C 3 dL_law_619 rfl ?_
        refine v_iconst C dL_law_620 ?_
        refine v_iadd C dL_law_621 ?_
        obtain ⟨e187, e188, h⟩ := h
        refine v_sld C S dL_law_622 e187 e188 ?_
        refine v_aload_n C 0 dL_law_623 rfl ?_
        refine v_iload_n C 3 dL_law_624 rfl ?_
        refine v_iconst C dL_law_625 ?_
        refine v_iadd C dL_law_626 ?_
        obtain ⟨e189, e190, h⟩ := h
        refine v_sld C S dL_law_627 e189 e190 ?_
        refine v_aload_n C 0 dL_law_628 rfl ?_
        refine v_iload_n C 3 dL_law_629 rfl ?_
        refine v_iconst C dL_law_630 ?_
        refine v_iadd C dL_law_631 ?_
        obtain ⟨e191, e192, h⟩ := h
        refine v_sld C S dL_law_632 e191 e192 ?_
        refine v_cVI C kX9 rfl (s_X9_trips G l0 h) mv_X9_trips wd_1126 ⟨by decide, by decide⟩ rfl rfl (Nat.le_of_ble_eq_true rfl) dL_law_633 (fun r68 T67 h => ?_)
        obtain ⟨e193, e194, e195, e196⟩ := h
        refine v_icmp_eq (tgt := 994) C dL_law_636 (by decide) e193 e194 (fun e197 => ?_) (fun e197 => ?_)
        · have h := e195 e197
          exact v_sub [0, 1, 2, 3] rfl (t_L_law_994 C E S ih h)
        · have h := e196 e197
          refine v_iconst C dL_law_639 ?_
          exact h.elim
      by_cases e384 : (zand (xz xs v3) 31) = 17
      · have h := e354 e384
        refine v_tin (off := 609) (tgt := 641) C dL_law_32 e8 17 e384 (by decide) (by decide) (by decide) (by decide) ?_
        refine v_aload_n C 1 dL_law_641 rfl ?_
        refine v_aload_n C 0 dL_law_642 rfl ?_
        refine v_iload_n C 3 dL_law_643 rfl ?_
        refine v_iconst C dL_law_644 ?_
        refine v_iadd C dL_law_645 ?_
        obtain ⟨e198, e199, h⟩ := h
        refine v_sld C S dL_law_646 e198 e199 ?_
        refine v_aload_n C 0 dL_law_647 rfl ?_
        refine v_iload_n C 3 dL_law_648 rfl ?_
        refine v_iconst C dL_law_649 ?_
        refine v_iadd C dL_law_650 ?_
        obtain ⟨e200, e201, h⟩ := h
        refine v_sld C S dL_law_651 e200 e201 ?_
        refine v_aload_n C 0 dL_law_652 rfl ?_
        refine v_iload_n C 3 dL_law_653 rfl ?_
        refine v_iconst C dL_law_654 ?_
        refine v_iadd C dL_law_655 ?_
        obtain ⟨e202, e203, h⟩ := h
        refine v_sld C S dL_law_656 e202 e203 ?_
        refine v_aload_n C 0 dL_law_657 rfl ?_
        refine v_iload_n C 3 dL_law_658 rfl ?_
        refine v_iconst C dL_law_659 ?_
        refine v_iadd C dL_law_660 ?_
        obtain ⟨e204, e205, h⟩ := h
        refine v_sld C S dL_law_661 e204 e205 ?_
        refine v_cVI C kX8 rfl (s_X8_counted G l0 h) mv_X8_counted wd_666 ⟨by decide, by decide⟩ rfl rfl (Nat.le_of_ble_eq_true rfl) dL_law_662 (fun r70 T69 h => ?_)
        refine v_aload_n C 2 dL_law_665 rfl ?_
        refine v_aload_n C 0 dL_law_666 rfl ?_
        refine v_iload_n C 3 dL_law_667 rfl ?_
        refine v_iconst C dL_law_668 ?_
        refine v_iadd C dL_law_669 ?_
        obtain ⟨e206, e207, h⟩ := h
        refine v_sld C S dL_law_670 e206 e207 ?_
        refine v_aload_n C 0 dL_law_671 rfl ?_
        refine v_iload_n C 3 dL_law_672 rfl ?_
        refine v_iconst C dL_law_673 ?_
        refine v_iadd C dL_law_674 ?_
        obtain ⟨e208, e209, h⟩ := h
        refine v_sld C S dL_law_675 e208 e209 ?_
        refine v_aload_n C 0 dL_law_676 rfl ?_
        refine v_iload_n C 3 dL_law_677 rfl ?_
        refine v_iconst C dL_law_678 ?_
        refine v_iadd C dL_law_679 ?_
        obtain ⟨e210, e211, h⟩ := h
        refine v_sld C S dL_law_680 e210 e211 ?_
        refine v_aload_n C 0 dL_law_681 rfl ?_
        refine v_iload_n C 3 dL_law_682 rfl ?_
        refine v_iconst C dL_law_683 ?_
        refine v_iadd C dL_law_684 ?_
        obtain ⟨e212, e213, h⟩ := h
        refine v_sld C S dL_law_685 e212 e213 ?_
        refine v_cVI C kX9 rfl (s_X9_counted G l0 h) mv_X9_counted wd_1134 ⟨by decide, by decide⟩ rfl rfl (Nat.le_of_ble_eq_true rfl) dL_law_686 (fun r72 T71 h => ?_)
        obtain ⟨e214, e215, e216, e217⟩ := h
        refine v_icmp_eq (tgt := 994) C dL_law_689 (by decide) e214 e215 (fun e218 => ?_) (fun e218 => ?_)
        · have h := e216 e218
          exact v_sub [0, 1, 2, 3] rfl (t_L_law_994 C E S ih h)
        · have h := e217 e218
          refine v_iconst C dL_law_692 ?_
          exact h.elim
      by_cases e385 : (zand (xz xs v3) 31) = 18
      · have h := e355 e385
        refine v_tin (off := 662) (tgt := 694) C dL_law_32 e8 18 e385 (by decide) (by decide) (by decide) (by decide) ?_
        refine v_aload_n C 1 dL_law_694 rfl ?_
        refine v_aload_n C 0 dL_law_695 rfl ?_
        refine v_iload_n C 3 dL_law_696 rfl ?_
        refine v_iconst C dL_law_697 ?_
        refine v_iadd C dL_law_698 ?_
        obtain ⟨e219, e220, h⟩ := h
        refine v_sld C S dL_law_699 e219 e220 ?_
        refine v_aload_n C 0 dL_law_700 rfl ?_
        refine v_iload_n C 3 dL_law_701 rfl ?_
        refine v_iconst C dL_law_702 ?_
        refine v_iadd C dL_law_703 ?_
        obtain ⟨e221, e222, h⟩ := h
        refine v_sld C S dL_law_704 e221 e222 ?_
        refine v_aload_n C 0 dL_law_705 rfl ?_
        refine v_iload_n C 3 dL_law_706 rfl ?_
        refine v_iconst C dL_law_707 ?_
        refine v_iadd C dL_law_708 ?_
        obtain ⟨e223, e224, h⟩ := h
        refine v_sld C S dL_law_709 e223 e224 ?_
        refine v_cVI C kX8 rfl (s_X8_lies G l0 h) mv_X8_lies wd_704 ⟨by decide, by decide⟩ rfl rfl (Nat.le_of_ble_eq_true rfl) dL_law_710 (fun r74 T73 h => ?_)
        refine v_aload_n C 2 dL_law_713 rfl ?_
        refine v_aload_n C 0 dL_law_714 rfl ?_
        refine v_iload_n C 3 dL_law_715 rfl ?_
        refine v_iconst C dL_law_716 ?_
        refine v_iadd C dL_law_717 ?_
        obtain ⟨e225, e226, h⟩ := h
        refine v_sld C S dL_law_718 e225 e226 ?_
        refine v_aload_n C 0 dL_law_719 rfl ?_
        refine v_iload_n C 3 dL_law_720 rfl ?_
        refine v_iconst C dL_law_721 ?_
        refine v_iadd C dL_law_722 ?_
        obtain ⟨e227, e228, h⟩ := h
        refine v_sld C S dL_law_723 e227 e228 ?_
        refine v_aload_n C 0 dL_law_724 rfl ?_
        refine v_iload_n C 3 dL_law_725 rfl ?_
        refine v_iconst C dL_law_726 ?_
        refine v_iadd C dL_law_727 ?_
        obtain ⟨e229, e230, h⟩ := h
        refine v_sld C S dL_law_728 e229 e230 ?_
        refine v_cVI C kX9 rfl (s_X9_lies G l0 h) mv_X9_lies wd_1146 ⟨by decide, by decide⟩ rfl rfl (Nat.le_of_ble_eq_true rfl) dL_law_729 (fun r76 T75 h => ?_)
        obtain ⟨e231, e232, e233, e234⟩ := h
        refine v_icmp_eq (tgt := 994) C dL_law_732 (by decide) e231 e232 (fun e235 => ?_) (fun e235 => ?_)
        · have h := e233 e235
          exact v_sub [0, 1, 2, 3] rfl (t_L_law_994 C E S ih h)
        · have h := e234 e235
          refine v_iconst C dL_law_735 ?_
          exact h.elim
      by_cases e386 : (zand (xz xs v3) 31) = 19
      · have h := e356 e386
        refine v_tin (off := 705) (tgt := 737) C dL_law_32 e8 19 e386 (by decide) (by decide) (by decide) (by decide) ?_
        refine v_aload_n C 1 dL_law_737 rfl ?_
        refine v_aload_n C 0 dL_law_738 rfl ?_
        refine v_iload_n C 3 dL_law_739 rfl ?_
        refine v_iconst C dL_law_740 ?_
        refine v_iadd C dL_law_741 ?_
        obtain ⟨e236, e237, h⟩ := h
        refine v_sld C S dL_law_742 e236 e237 ?_
        refine v_aload_n C 0 dL_law_743 rfl ?_
        refine v_iload_n C 3 dL_law_744 rfl ?_
        refine v_iconst C dL_law_745 ?_
        refine v_iadd C dL_law_746 ?_
        obtain ⟨e238, e239, h⟩ := h
        refine v_sld C S dL_law_747 e238 e239 ?_
        refine v_aload_n C 0 dL_law_748 rfl ?_
        refine v_iload_n C 3 dL_law_749 rfl ?_
        refine v_iconst C dL_law_750 ?_
        refine v_iadd C dL_law_751 ?_
        obtain ⟨e240, e241, h⟩ := h
        refine v_sld C S dL_law_752 e240 e241 ?_
        refine v_cVI C kX8 rfl (s_X8_apart G l0 h) mv_X8_apart wd_709 ⟨by decide, by decide⟩ rfl rfl (Nat.le_of_ble_eq_true rfl) dL_law_753 (fun r78 T77 h => ?_)
        refine v_aload_n C 2 dL_law_756 rfl ?_
        refine v_aload_n C 0 dL_law_757 rfl ?_
        refine v_iload_n C 3 dL_law_758 rfl ?_
        refine v_iconst C dL_law_759 ?_
        refine v_iadd C dL_law_760 ?_
        obtain ⟨e242, e243, h⟩ := h
        refine v_sld C S dL_law_761 e242 e243 ?_
        refine v_aload_n C 0 dL_law_762 rfl ?_
        refine v_iload_n C 3 dL_law_763 rfl ?_
        refine v_iconst C dL_law_764 ?_
        refine v_iadd C dL_law_765 ?_
        obtain ⟨e244, e245, h⟩ := h
        refine v_sld C S dL_law_766 e244 e245 ?_
        refine v_aload_n C 0 dL_law_767 rfl ?_
        refine v_iload_n C 3 dL_law_768 rfl ?_
        refine v_iconst C dL_law_769 ?_
        refine v_iadd C dL_law_770 ?_
        obtain ⟨e246, e247, h⟩ := h
        refine v_sld C S dL_law_771 e246 e247 ?_
        refine v_cVI C kX9 rfl (s_X9_apart G l0 h) mv_X9_apart wd_1150 ⟨by decide, by decide⟩ rfl rfl (Nat.le_of_ble_eq_true rfl) dL_law_772 (fun r80 T79 h => ?_)
        obtain ⟨e248, e249, e250, e251⟩ := h
        refine v_icmp_eq (tgt := 994) C dL_law_775 (by decide) e248 e249 (fun e252 => ?_) (fun e252 => ?_)
        · have h := e250 e252
          exact v_sub [0, 1, 2, 3] rfl (t_L_law_994 C E S ih h)
        · have h := e251 e252
          refine v_iconst C dL_law_778 ?_
          exact h.elim
      by_cases e387 : (zand (xz xs v3) 31) = 20
      · have h := e357 e387
        refine v_tin (off := 748) (tgt := 780) C dL_law_32 e8 20 e387 (by decide) (by decide) (by decide) (by decide) ?_
        refine v_aload_n C 1 dL_law_780 rfl ?_
        refine v_aload_n C 0 dL_law_781 rfl ?_
        refine v_iload_n C 3 dL_law_782 rfl ?_
        refine v_iconst C dL_law_783 ?_
        refine v_iadd C dL_law_784 ?_
        obtain ⟨e253, e254, h⟩ := h
        refine v_sld C S dL_law_785 e253 e254 ?_
        refine v_aload_n C 0 dL_law_786 rfl ?_
        refine v_iload_n C 3 dL_law_787 rfl ?_
        refine v_iconst C dL_law_788 ?_
        refine v_iadd C dL_law_789 ?_
        obtain ⟨e255, e256, h⟩ := h
        refine v_sld C S dL_law_790 e255 e256 ?_
        refine v_aload_n C 0 dL_law_791 rfl ?_
        refine v_iload_n C 3 dL_law_792 rfl ?_
        refine v_iconst C dL_law_793 ?_
        refine v_iadd C dL_law_794 ?_
        obtain ⟨e257, e258, h⟩ := h
        refine v_sld C S dL_law_795 e257 e258 ?_
        refine v_cVI C kX8 rfl (s_X8_treaty G l0 h) mv_X8_treaty wd_722 ⟨by decide, by decide⟩ rfl rfl (Nat.le_of_ble_eq_true rfl) dL_law_796 (fun r82 T81 h => ?_)
        refine v_aload_n C 2 dL_law_799 rfl ?_
        refine v_aload_n C 0 dL_law_800 rfl ?_
        refine v_iload_n C 3 dL_law_801 rfl ?_
        refine v_iconst C dL_law_802 ?_
        refine v_iadd C dL_law_803 ?_
        obtain ⟨e259, e260, h⟩ := h
        refine v_sld C S dL_law_804 e259 e260 ?_
        refine v_aload_n C 0 dL_law_805 rfl ?_
        refine v_iload_n C 3 dL_law_806 rfl ?_
        refine v_iconst C dL_law_807 ?_
        refine v_iadd C dL_law_808 ?_
        obtain ⟨e261, e262, h⟩ := h
        refine v_sld C S dL_law_809 e261 e262 ?_
        refine v_aload_n C 0 dL_law_810 rfl ?_
        refine v_iload_n C 3 dL_law_811 rfl ?_
        refine v_iconst C dL_law_812 ?_
        refine v_iadd C dL_law_813 ?_
        obtain ⟨e263, e264, h⟩ := h
        refine v_sld C S dL_law_814 e263 e264 ?_
        refine v_cVI C kX9 rfl (s_X9_treaty G l0 h) mv_X9_treaty wd_1161 ⟨by decide, by decide⟩ rfl rfl (Nat.le_of_ble_eq_true rfl) dL_law_815 (fun r84 T83 h => ?_)
        obtain ⟨e265, e266, e267, e268⟩ := h
        refine v_icmp_eq (tgt := 994) C dL_law_818 (by decide) e265 e266 (fun e269 => ?_) (fun e269 => ?_)
        · have h := e267 e269
          exact v_sub [0, 1, 2, 3] rfl (t_L_law_994 C E S ih h)
        · have h := e268 e269
          refine v_iconst C dL_law_821 ?_
          exact h.elim
      by_cases e388 : (zand (xz xs v3) 31) = 21
      · have h := e358 e388
        refine v_tin (off := 791) (tgt := 823) C dL_law_32 e8 21 e388 (by decide) (by decide) (by decide) (by decide) ?_
        refine v_aload_n C 1 dL_law_823 rfl ?_
        refine v_aload_n C 0 dL_law_824 rfl ?_
        refine v_iload_n C 3 dL_law_825 rfl ?_
        refine v_iconst C dL_law_826 ?_
        refine v_iadd C dL_law_827 ?_
        obtain ⟨e270, e271, h⟩ := h
        refine v_sld C S dL_law_828 e270 e271 ?_
        refine v_aload_n C 0 dL_law_829 rfl ?_
        refine v_iload_n C 3 dL_law_830 rfl ?_
        refine v_iconst C dL_law_831 ?_
        refine v_iadd C dL_law_832 ?_
        obtain ⟨e272, e273, h⟩ := h
        refine v_sld C S dL_law_833 e272 e273 ?_
        refine v_aload_n C 0 dL_law_834 rfl ?_
        refine v_iload_n C 3 dL_law_835 rfl ?_
        refine v_iconst C dL_law_836 ?_
        refine v_iadd C dL_law_837 ?_
        obtain ⟨e274, e275, h⟩ := h
        refine v_sld C S dL_law_838 e274 e275 ?_
        refine v_cVI C kX8 rfl (s_X8_odds G l0 h) mv_X8_odds wd_742 ⟨by decide, by decide⟩ rfl rfl (Nat.le_of_ble_eq_true rfl) dL_law_839 (fun r86 T85 h => ?_)
        refine v_aload_n C 2 dL_law_842 rfl ?_
        refine v_aload_n C 0 dL_law_843 rfl ?_
        refine v_iload_n C 3 dL_law_844 rfl ?_
        refine v_iconst C dL_law_845 ?_
        refine v_iadd C dL_law_846 ?_
        obtain ⟨e276, e277, h⟩ := h
        refine v_sld C S dL_law_847 e276 e277 ?_
        refine v_aload_n C 0 dL_law_848 rfl ?_
        refine v_iload_n C 3 dL_law_849 rfl ?_
        refine v_iconst C dL_law_850 ?_
        refine v_iadd C dL_law_851 ?_
        obtain ⟨e278, e279, h⟩ := h
        refine v_sld C S dL_law_852 e278 e279 ?_
        refine v_aload_n C 0 dL_law_853 rfl ?_
        refine v_iload_n C 3 dL_law_854 rfl ?_
        refine v_iconst C dL_law_855 ?_
        refine v_iadd C dL_law_856 ?_
        obtain ⟨e280, e281, h⟩ := h
        refine v_sld C S dL_law_857 e280 e281 ?_
        refine v_cVI C kX9 rfl (s_X9_odds G l0 h) mv_X9_odds wd_1169 ⟨by decide, by decide⟩ rfl rfl (Nat.le_of_ble_eq_true rfl) dL_law_858 (fun r88 T87 h => ?_)
        obtain ⟨e282, e283, e284, e285⟩ := h
        refine v_icmp_eq (tgt := 994) C dL_law_861 (by decide) e282 e283 (fun e286 => ?_) (fun e286 => ?_)
        · have h := e284 e286
          exact v_sub [0, 1, 2, 3] rfl (t_L_law_994 C E S ih h)
        · have h := e285 e286
          refine v_iconst C dL_law_864 ?_
          exact h.elim
      by_cases e389 : (zand (xz xs v3) 31) = 22
      · have h := e359 e389
        refine v_tin (off := 834) (tgt := 866) C dL_law_32 e8 22 e389 (by decide) (by decide) (by decide) (by decide) ?_
        refine v_aload_n C 1 dL_law_866 rfl ?_
        refine v_aload_n C 0 dL_law_867 rfl ?_
        refine v_iload_n C 3 dL_law_868 rfl ?_
        refine v_iconst C dL_law_869 ?_
        refine v_iadd C dL_law_870 ?_
        obtain ⟨e287, e288, h⟩ := h
        refine v_sld C S dL_law_871 e287 e288 ?_
        refine v_aload_n C 0 dL_law_872 rfl ?_
        refine v_iload_n C 3 dL_law_873 rfl ?_
        refine v_iconst C dL_law_874 ?_
        refine v_iadd C dL_law_875 ?_
        obtain ⟨e289, e290, h⟩ := h
        refine v_sld C S dL_law_876 e289 e290 ?_
        refine v_cVI C kX8 rfl (s_X8_write G l0 h) mv_X8_write wd_772 ⟨by decide, by decide⟩ rfl rfl (Nat.le_of_ble_eq_true rfl) dL_law_877 (fun r90 T89 h => ?_)
        refine v_aload_n C 2 dL_law_880 rfl ?_
        refine v_aload_n C 0 dL_law_881 rfl ?_
        refine v_iload_n C 3 dL_law_882 rfl ?_
        refine v_iconst C dL_law_883 ?_
        refine v_iadd C dL_law_884 ?_
        obtain ⟨e291, e292, h⟩ := h
        refine v_sld C S dL_law_885 e291 e292 ?_
        refine v_aload_n C 0 dL_law_886 rfl ?_
        refine v_iload_n C 3 dL_law_887 rfl ?_
        refine v_iconst C dL_law_888 ?_
        refine v_iadd C dL_law_889 ?_
        obtain ⟨e293, e294, h⟩ := h
        refine v_sld C S dL_law_890 e293 e294 ?_
        refine v_cVI C kX9 rfl (s_X9_write G l0 h) mv_X9_write wd_1175 ⟨by decide, by decide⟩ rfl rfl (Nat.le_of_ble_eq_true rfl) dL_law_891 (fun r92 T91 h => ?_)
        obtain ⟨e295, e296, e297, e298⟩ := h
        refine v_icmp_eq (tgt := 994) C dL_law_894 (by decide) e295 e296 (fun e299 => ?_) (fun e299 => ?_)
        · have h := e297 e299
          exact v_sub [0, 1, 2, 3] rfl (t_L_law_994 C E S ih h)
        · have h := e298 e299
          refine v_iconst C dL_law_897 ?_
          exact h.elim
      by_cases e390 : (zand (xz xs v3) 31) = 23
      · have h := e360 e390
        refine v_tin (off := 867) (tgt := 899) C dL_law_32 e8 23 e390 (by decide) (by decide) (by decide) (by decide) ?_
        refine v_aload_n C 1 dL_law_899 rfl ?_
        refine v_cVI C kX8 rfl (s_X8_tear G l0 h) mv_X8_tear wd_781 ⟨by decide, by decide⟩ rfl rfl (Nat.le_of_ble_eq_true rfl) dL_law_900 (fun r94 T93 h => ?_)
        refine v_aload_n C 2 dL_law_903 rfl ?_
        refine v_cVI C kX9 rfl (s_X9_tear G l0 h) mv_X9_tear wd_1179 ⟨by decide, by decide⟩ rfl rfl (Nat.le_of_ble_eq_true rfl) dL_law_904 (fun r96 T95 h => ?_)
        obtain ⟨e300, e301, e302, e303⟩ := h
        refine v_icmp_eq (tgt := 994) C dL_law_907 (by decide) e300 e301 (fun e304 => ?_) (fun e304 => ?_)
        · have h := e302 e304
          exact v_sub [0, 1, 2, 3] rfl (t_L_law_994 C E S ih h)
        · have h := e303 e304
          refine v_iconst C dL_law_910 ?_
          exact h.elim
      by_cases e391 : (zand (xz xs v3) 31) = 24
      · have h := e361 e391
        refine v_tin (off := 880) (tgt := 912) C dL_law_32 e8 24 e391 (by decide) (by decide) (by decide) (by decide) ?_
        refine v_aload_n C 1 dL_law_912 rfl ?_
        refine v_cVI C kX8 rfl (s_X8_judge G l0 h) mv_X8_judge wd_785 ⟨by decide, by decide⟩ rfl rfl (Nat.le_of_ble_eq_true rfl) dL_law_913 (fun r98 T97 h => ?_)
        refine v_aload_n C 2 dL_law_916 rfl ?_
        refine v_cVI C kX9 rfl (s_X9_judge G l0 h) mv_X9_judge wd_1183 ⟨by decide, by decide⟩ rfl rfl (Nat.le_of_ble_eq_true rfl) dL_law_917 (fun r100 T99 h => ?_)
        obtain ⟨e305, e306, e307, e308⟩ := h
        refine v_icmp_eq (tgt := 994) C dL_law_920 (by decide) e305 e306 (fun e309 => ?_) (fun e309 => ?_)
        · have h := e307 e309
          exact v_sub [0, 1, 2, 3] rfl (t_L_law_994 C E S ih h)
        · have h := e308 e309
          refine v_iconst C dL_law_923 ?_
          exact h.elim
      by_cases e392 : (zand (xz xs v3) 31) = 25
      · have h := e362 e392
        refine v_tin (off := 893) (tgt := 925) C dL_law_32 e8 25 e392 (by decide) (by decide) (by decide) (by decide) ?_
        refine v_aload_n C 1 dL_law_925 rfl ?_
        refine v_aload_n C 0 dL_law_926 rfl ?_
        refine v_iload_n C 3 dL_law_927 rfl ?_
        refine v_iconst C dL_law_928 ?_
        refine v_iadd C dL_law_929 ?_
        obtain ⟨e310, e311, h⟩ := h
        refine v_sld C S dL_law_930 e310 e311 ?_
        refine v_cVI C kX8 rfl (s_X8_seed G l0 h) mv_X8_seed wd_794 ⟨by decide, by decide⟩ rfl rfl (Nat.le_of_ble_eq_true rfl) dL_law_931 (fun r102 T101 h => ?_)
        refine v_aload_n C 2 dL_law_934 rfl ?_
        refine v_aload_n C 0 dL_law_935 rfl ?_
        refine v_iload_n C 3 dL_law_936 rfl ?_
        refine v_iconst C dL_law_937 ?_
        refine v_iadd C dL_law_938 ?_
        obtain ⟨e312, e313, h⟩ := h
        refine v_sld C S dL_law_939 e312 e313 ?_
        refine v_cVI C kX9 rfl (s_X9_seed G l0 h) mv_X9_seed wd_1187 ⟨by decide, by decide⟩ rfl rfl (Nat.le_of_ble_eq_true rfl) dL_law_940 (fun r104 T103 h => ?_)
        obtain ⟨e314, e315, e316, e317⟩ := h
        refine v_icmp_eq (tgt := 994) C dL_law_943 (by decide) e314 e315 (fun e318 => ?_) (fun e318 => ?_)
        · have h := e316 e318
          exact v_sub [0, 1, 2, 3] rfl (t_L_law_994 C E S ih h)
        · have h := e317 e318
          refine v_iconst C dL_law_946 ?_
          exact h.elim
      by_cases e393 : (zand (xz xs v3) 31) = 26
      · have h := e363 e393
        refine v_tin (off := 916) (tgt := 948) C dL_law_32 e8 26 e393 (by decide) (by decide) (by decide) (by decide) ?_
        refine v_aload_n C 1 dL_law_948 rfl ?_
        refine v_aload_n C 0 dL_law_949 rfl ?_
        refine v_iload_n C 3 dL_law_950 rfl ?_
        refine v_iconst C dL_law_951 ?_
        refine v_iadd C dL_law_952 ?_
        obtain ⟨e319, e320, h⟩ := h
        refine v_sld C S dL_law_953 e319 e320 ?_
        refine v_cVI C kX8 rfl (s_X8_keep G l0 h) mv_X8_keep wd_798 ⟨by decide, by decide⟩ rfl rfl (Nat.le_of_ble_eq_true rfl) dL_law_954 (fun r106 T105 h => ?_)
        refine v_aload_n C 2 dL_law_957 rfl ?_
        refine v_aload_n C 0 dL_law_958 rfl ?_
        refine v_iload_n C 3 dL_law_959 rfl ?_
        refine v_iconst C dL_law_960 ?_
        refine v_iadd C dL_law_961 ?_
        obtain ⟨e321, e322, h⟩ := h
        refine v_sld C S dL_law_962 e321 e322 ?_
        refine v_cVI C kX9 rfl (s_X9_keep G l0 h) mv_X9_keep wd_1191 ⟨by decide, by decide⟩ rfl rfl (Nat.le_of_ble_eq_true rfl) dL_law_963 (fun r108 T107 h => ?_)
        obtain ⟨e323, e324, e325, e326⟩ := h
        refine v_icmp_eq (tgt := 994) C dL_law_966 (by decide) e323 e324 (fun e327 => ?_) (fun e327 => ?_)
        · have h := e325 e327
          exact v_sub [0, 1, 2, 3] rfl (t_L_law_994 C E S ih h)
        · have h := e326 e327
          refine v_iconst C dL_law_969 ?_
          exact h.elim
      by_cases e394 : (zand (xz xs v3) 31) = 27
      · have h := e364 e394
        refine v_tin (off := 939) (tgt := 971) C dL_law_32 e8 27 e394 (by decide) (by decide) (by decide) (by decide) ?_
        refine v_aload_n C 1 dL_law_971 rfl ?_
        refine v_aload_n C 0 dL_law_972 rfl ?_
        refine v_iload_n C 3 dL_law_973 rfl ?_
        refine v_iconst C dL_law_974 ?_
        refine v_iadd C dL_law_975 ?_
        obtain ⟨e328, e329, h⟩ := h
        refine v_sld C S dL_law_976 e328 e329 ?_
        refine v_cVI C kX8 rfl (s_X8_goBack G l0 h) mv_X8_goBack wd_802 ⟨by decide, by decide⟩ rfl rfl (Nat.le_of_ble_eq_true rfl) dL_law_977 (fun r110 T109 h => ?_)
        refine v_aload_n C 2 dL_law_980 rfl ?_
        refine v_aload_n C 0 dL_law_981 rfl ?_
        refine v_iload_n C 3 dL_law_982 rfl ?_
        refine v_iconst C dL_law_983 ?_
        refine v_iadd C dL_law_984 ?_
        obtain ⟨e330, e331, h⟩ := h
        refine v_sld C S dL_law_985 e330 e331 ?_
        refine v_cVI C kX9 rfl (s_X9_goBack G l0 h) mv_X9_goBack wd_1195 ⟨by decide, by decide⟩ rfl rfl (Nat.le_of_ble_eq_true rfl) dL_law_986 (fun r112 T111 h => ?_)
        obtain ⟨e332, e333, e334, e335⟩ := h
        refine v_icmp_eq (tgt := 994) C dL_law_989 (by decide) e332 e333 (fun e336 => ?_) (fun e336 => ?_)
        · have h := e334 e336
          exact v_sub [0, 1, 2, 3] rfl (t_L_law_994 C E S ih h)
        · have h := e335 e336
          refine v_iconst C dL_law_992 ?_
          exact h.elim
      have h := e365 e367 e368 e369 e370 e371 e372 e373 e374 e375 e376 e377 e378 e379 e380 e381 e382 e383 e384 e385 e386 e387 e388 e389 e390 e391 e392 e393 e394
      refine v_tout (tgt := 994) C dL_law_32 e8 (by omega) (by decide) ?_
      exact v_sub [0, 1, 2, 3] rfl (t_L_law_994 C E S ih h)
