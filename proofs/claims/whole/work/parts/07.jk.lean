def zmax (a b : Int) : Int := if a < b then b else a
theorem v_mmax {G : GT} {X : CX} {Th : TH} {pc : Nat} {lv : List (Nat × Value)} {st : List Value} {cc : ByteArray} {nL : Nat} {own : String} {rm : Room} {l0 : Launch} (C : CT G l0 X cc nL own rm) {a b : Int} (ha : zR a) (hb3 : zR b) {index : Nat} (hw : Cond.methodLink own index Lib.Math.max.name ∈ lw_g) (w1 : Cond.static Lib.Math.max.name ∈ lw_g) (w2 : Cond.initialized "java/lang/Math" ∈ lw_g) (w3 : Cond.code Lib.Math.max.name Lib.Math.max.code 2 (some .int) ∈ lw_g) (hfr : 1 ≤ rm.frames) (hlo : (st.map fun v => v.category).sum + 13 ≤ rm.locals) (hd : decode cc pc = .ok (.invokestatic index, 3)) (k : V G X Th (pc + 3) lv (.int (zI (zmax a b)) :: st)) : V G X Th pc lv (.int (zI b) :: .int (zI a) :: st) := by
  obtain ⟨p, l, e, R, s, m, args, below, meth, c, nc, ns, Q⟩ := X
  obtain ⟨hx, hb, hml, hown, hts, hK, hR, hcc, hss, -⟩ := C
  intro H locs ls h1 h2 h3 h4 h5
  subst hR
  have k := k H locs ls h1 h2 h3 h4 h5
  have e9 : zI (zmax a b) = if zI a < zI b then zI b else zI a := by
    unfold zmax
    by_cases h : a < b
    · rw [if_pos h, if_pos ((zI_lt ha hb3).mpr h)]
    · rw [if_neg h, if_neg (fun q => h ((zI_lt ha hb3).mp q))]
  rw [e9] at k
  exact va_mmax hx hb h5.1.symm hown (hts _ hw) (hts _ w1) (hts _ w2) (hts _ w3) hfr hlo hcc hss hd k
def zmin (a b : Int) : Int := if b < a then b else a
theorem v_mmin {G : GT} {X : CX} {Th : TH} {pc : Nat} {lv : List (Nat × Value)} {st : List Value} {cc : ByteArray} {nL : Nat} {own : String} {rm : Room} {l0 : Launch} (C : CT G l0 X cc nL own rm) {a b : Int} (ha : zR a) (hb3 : zR b) {index : Nat} (hw : Cond.methodLink own index Lib.Math.min.name ∈ lw_g) (w1 : Cond.static Lib.Math.min.name ∈ lw_g) (w2 : Cond.initialized "java/lang/Math" ∈ lw_g) (w3 : Cond.code Lib.Math.min.name Lib.Math.min.code 2 (some .int) ∈ lw_g) (hfr : 1 ≤ rm.frames) (hlo : (st.map fun v => v.category).sum + 13 ≤ rm.locals) (hd : decode cc pc = .ok (.invokestatic index, 3)) (k : V G X Th (pc + 3) lv (.int (zI (zmin a b)) :: st)) : V G X Th pc lv (.int (zI b) :: .int (zI a) :: st) := by
  obtain ⟨p, l, e, R, s, m, args, below, meth, c, nc, ns, Q⟩ := X
  obtain ⟨hx, hb, hml, hown, hts, hK, hR, hcc, hss, -⟩ := C
  intro H locs ls h1 h2 h3 h4 h5
  subst hR
  have k := k H locs ls h1 h2 h3 h4 h5
  have e9 : zI (zmin a b) = if zI b < zI a then zI b else zI a := by
    unfold zmin
    by_cases h : b < a
    · rw [if_pos h, if_pos ((zI_lt hb3 ha).mpr h)]
    · rw [if_neg h, if_neg (fun q => h ((zI_lt hb3 ha).mp q))]
  rw [e9] at k
  exact va_mmin hx hb h5.1.symm hown (hts _ hw) (hts _ w1) (hts _ w2) (hts _ w3) hfr hlo hcc hss hd k
def h_J7_fill_53178_5 (a0 b0 n0 : Nat) (v1 : Int) (Q : TH → Prop) : Nat → Int → Int → TH → Prop
  | 0, _, _, _ => False
  | n + 1, v2, v3, T => zR v2 ∧ zR v3 ∧ (v3 ≤ v2 → (Q T)) ∧ (¬ (v3 ≤ v2) → (0 ≤ v2 ∧ v2 < n0 ∧ ∀ T1 : TH, T1 = up T a0 b0 v2 v1 → (h_J7_fill_53178_5 a0 b0 n0 v1 Q n) (v2 + 1) v3 T1))
def wp_J7_fill_53178 (a0 b0 n0 : Nat) (v1 : Int) (T : TH) (Q : TH → Prop) : Prop :=
  ∀ w1 : Int, w1 = (n0 : Int) → (∃ m9 : Nat, h_J7_fill_53178_5 a0 b0 n0 v1 Q m9 0 w1 T)
set_option maxRecDepth 100000 in
theorem t_J7_fill_53178_5 {G : GT} {l0 : Launch} {X : CX} (C : CT G l0 X cJ7_fill_53178 4 RJ7 (rM 0 0)) {Q : TH → Prop} (E : EN G X none (QV G Q)) {a0 b0 n0 : Nat} {v1 : Int} (ha0 : arT (clsO a0) b0 = some (0, n0)) : ∀ (n : Nat) (v2 : Int) (v3 : Int) (T : TH), h_J7_fill_53178_5 a0 b0 n0 v1 Q n v2 v3 T → V G X T 5 [(0, .ref (gaa G a0 b0)), (1, .int (zI v1)), (2, .int (zI v2)), (3, .int (zI v3))] [] := by
  intro n
  induction n with
  | zero =>
    intro v2 v3 T h
    exact h.elim
  | succ n ih =>
    intro v2 v3 T h
    rw [h_J7_fill_53178_5] at h
    refine v_iload_n C 2 dJ7_fill_53178_5 rfl ?_
    refine v_iload_n C 3 dJ7_fill_53178_6 rfl ?_
    obtain ⟨e1, e2, e3, e4⟩ := h
    refine v_icmp_ge (tgt := 20) C dJ7_fill_53178_7 (by decide) e1 e2 (fun e5 => ?_) (fun e5 => ?_)
    · have h := e3 e5
      exact v_vret C E dJ7_fill_53178_20 h
    · have h := e4 e5
      refine v_aload_n C 0 dJ7_fill_53178_10 rfl ?_
      refine v_iload_n C 2 dJ7_fill_53178_11 rfl ?_
      refine v_iload_n C 1 dJ7_fill_53178_12 rfl ?_
      obtain ⟨e6, e7, h⟩ := h
      refine v_iast C ha0 dJ7_fill_53178_13 e6 e7 ?_
      have h := h _ rfl
      refine v_iinc C 2 dJ7_fill_53178_14 rfl (by decide) ?_
      refine v_goto (tgt := 5) C dJ7_fill_53178_17 (by decide) ?_
      exact v_sub [1, 2, 0, 3] rfl (ih _ _ _ h)
set_option maxRecDepth 100000 in
theorem s_J7_fill_53178 (G : GT) (l0 : Launch) {a0 b0 n0 : Nat} {v1 : Int} {T : TH} {Q : TH → Prop} (ha0 : arT (clsO a0) b0 = some (0, n0)) (h : wp_J7_fill_53178 a0 b0 n0 v1 T Q) : MT G l0 yJ7_fill_53178 cJ7_fill_53178 4 none 0 0 [.ref (gaa G a0 b0), .int (zI v1)] T (QV G Q) := by
  refine mt_of G l0 (by decide) (Nat.le_of_ble_eq_true rfl) (fun X C E => ?_)
  show V G X T 0 [(0, .ref (gaa G a0 b0)), (1, .int (zI v1))] []
  unfold wp_J7_fill_53178 at h
  refine v_iconst C dJ7_fill_53178_0 ?_
  refine v_istore_n C dJ7_fill_53178_1 rfl (by decide) ?_
  refine v_aload_n C 1 dJ7_fill_53178_2 rfl ?_
  refine v_alen C ha0 (by decide) dJ7_fill_53178_3 ?_
  refine v_istore_n C dJ7_fill_53178_4 rfl (by decide) ?_
  have h := h _ rfl
  obtain ⟨n9, h⟩ := h
  exact v_sub [2, 3, 1, 0] rfl (t_J7_fill_53178_5 C E ha0 n9 _ _ _ h)
def wp_J6_bitCount_0f7a4 (v0 : Int) (T : TH) (Q : Int → TH → Prop) : Prop :=
  ∀ w1 : Int, w1 = (v0 - (zand (zushr v0 1) 1431655765)) → ∀ w2 : Int, w2 = ((zand w1 858993459) + (zand (zushr w1 2) 858993459)) → ∀ w3 : Int, w3 = (zand (w2 + (zushr w2 4)) 252645135) → ∀ w4 : Int, w4 = (w3 + (zushr w3 8)) → ∀ w5 : Int, w5 = (w4 + (zushr w4 16)) → Q (zand w5 63) T
set_option maxRecDepth 100000 in
theorem s_J6_bitCount_0f7a4 (G : GT) (l0 : Launch) {v0 : Int} {T : TH} {Q : Int → TH → Prop} (h : wp_J6_bitCount_0f7a4 v0 T Q) : MT G l0 yJ6_bitCount_0f7a4 cJ6_bitCount_0f7a4 1 (some .int) 0 0 [.int (zI v0)] T (QI G Q) := by
  refine mt_of G l0 (by decide) (Nat.le_of_ble_eq_true rfl) (fun X C E => ?_)
  show V G X T 0 [(0, .int (zI v0))] []
  unfold wp_J6_bitCount_0f7a4 at h
  refine v_iload_n C 0 dJ6_bitCount_0f7a4_0 rfl ?_
  refine v_iload_n C 0 dJ6_bitCount_0f7a4_1 rfl ?_
  refine v_iconst C dJ6_bitCount_0f7a4_2 ?_
  refine v_iushr C dJ6_bitCount_0f7a4_3 ?_
  refine v_ldcw (n := 1431655765) C dJ6_bitCount_0f7a4_4 wd_482 (by decide) ?_
  refine v_iand C dJ6_bitCount_0f7a4_7 ?_
  refine v_isub C dJ6_bitCount_0f7a4_8 ?_
  refine v_istore_n C dJ6_bitCount_0f7a4_9 rfl (by decide) ?_
  have h := h _ rfl
  refine v_iload_n C 0 dJ6_bitCount_0f7a4_10 rfl ?_
  refine v_ldcw (n := 858993459) C dJ6_bitCount_0f7a4_11 wd_483 (by decide) ?_
  refine v_iand C dJ6_bitCount_0f7a4_14 ?_
  refine v_iload_n C 0 dJ6_bitCount_0f7a4_15 rfl ?_
  refine v_iconst C dJ6_bitCount_0f7a4_16 ?_
  refine v_iushr C dJ6_bitCount_0f7a4_17 ?_
  refine v_ldcw (n := 858993459) C dJ6_bitCount_0f7a4_18 wd_483 (by decide) ?_
  refine v_iand C dJ6_bitCount_0f7a4_21 ?_
  refine v_iadd C dJ6_bitCount_0f7a4_22 ?_
  refine v_istore_n C dJ6_bitCount_0f7a4_23 rfl (by decide) ?_
  have h := h _ rfl
  refine v_iload_n C 0 dJ6_bitCount_0f7a4_24 rfl ?_
  refine v_iload_n C 0 dJ6_bitCount_0f7a4_25 rfl ?_
  refine v_iconst C dJ6_bitCount_0f7a4_26 ?_
  refine v_iushr C dJ6_bitCount_0f7a4_27 ?_
  refine v_iadd C dJ6_bitCount_0f7a4_28 ?_
  refine v_ldcw (n := 252645135) C dJ6_bitCount_0f7a4_29 wd_484 (by decide) ?_
  refine v_iand C dJ6_bitCount_0f7a4_32 ?_
  refine v_istore_n C dJ6_bitCount_0f7a4_33 rfl (by decide) ?_
  have h := h _ rfl
  refine v_iload_n C 0 dJ6_bitCount_0f7a4_34 rfl ?_
  refine v_iload_n C 0 dJ6_bitCount_0f7a4_35 rfl ?_
  refine v_bipush C dJ6_bitCount_0f7a4_36 (by decide) ?_
  refine v_iushr C dJ6_bitCount_0f7a4_38 ?_
  refine v_iadd C dJ6_bitCount_0f7a4_39 ?_
  refine v_istore_n C dJ6_bitCount_0f7a4_40 rfl (by decide) ?_
  have h := h _ rfl
  refine v_iload_n C 0 dJ6_bitCount_0f7a4_41 rfl ?_
  refine v_iload_n C 0 dJ6_bitCount_0f7a4_42 rfl ?_
  refine v_bipush C dJ6_bitCount_0f7a4_43 (by decide) ?_
  refine v_iushr C dJ6_bitCount_0f7a4_45 ?_
  refine v_iadd C dJ6_bitCount_0f7a4_46 ?_
  refine v_istore_n C dJ6_bitCount_0f7a4_47 rfl (by decide) ?_
  have h := h _ rfl
  refine v_iload_n C 0 dJ6_bitCount_0f7a4_48 rfl ?_
  refine v_bipush C dJ6_bitCount_0f7a4_49 (by decide) ?_
  refine v_iand C dJ6_bitCount_0f7a4_51 ?_
  exact v_iret C E dJ6_bitCount_0f7a4_52 h
