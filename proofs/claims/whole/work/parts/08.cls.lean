def wp_X0_move (v1 : Int) (v2 : Int) (v3 : Int) (T : TH) (Q : TH → Prop) : Prop :=
  0 ≤ v1 ∧ v1 < 433 ∧ zR (T 11 0 v1) ∧ ((T 11 0 v1) = 0 → (Q T)) ∧ (¬ ((T 11 0 v1) = 0) → (zR v2 ∧ (v2 < 0 → (Q T)) ∧ (¬ (v2 < 0) → (zR v2 ∧ (432 < v2 → (Q T)) ∧ (¬ (432 < v2) → (0 ≤ v1 ∧ v1 < 433 ∧ zR (T 11 0 v1) ∧ zR v3 ∧ ∀ w1 : Int, w1 = (zdivL ((T 11 0 v1) * v3) 100) → 0 ≤ v1 ∧ v1 < 433 ∧ 0 ≤ v1 ∧ v1 < 433 ∧ ∀ T2 : TH, T2 = up T 11 0 v1 ((T 11 0 v1) - w1) → 0 ≤ v2 ∧ v2 < 433 ∧ 0 ≤ v2 ∧ v2 < 433 ∧ ∀ T3 : TH, T3 = up T2 11 0 v2 ((T2 11 0 v2) + w1) → Q T3))))))
set_option maxRecDepth 100000 in
theorem s_X0_move (G : GT) (l0 : Launch) {v1 : Int} {v2 : Int} {v3 : Int} {T : TH} {Q : TH → Prop} (h : wp_X0_move v1 v2 v3 T Q) : MT G l0 yX0_move cX0_move 5 none 0 0 [.ref (gad G 11), .int (zI v1), .int (zI v2), .int (zI v3)] T (QV G Q) := by
  refine mt_of G l0 (by decide) (Nat.le_of_ble_eq_true rfl) (fun X C E => ?_)
  show V G X T 0 [(0, .ref (gad G 11)), (1, .int (zI v1)), (2, .int (zI v2)), (3, .int (zI v3))] []
  unfold wp_X0_move at h
  refine v_aload_n C 0 dX0_move_0 rfl ?_
  refine v_getA C kX0 0 rfl rfl wd_289 rfl dX0_move_1 ?_
  refine v_iload_n C 1 dX0_move_4 rfl ?_
  obtain ⟨e1, e2, h⟩ := h
  refine v_iald C (ar_of (o := 11) rfl ar_0_0) dX0_move_5 e1 e2 ?_
  obtain ⟨e3, e4, e5⟩ := h
  refine v_if_eq (tgt := 59) C dX0_move_6 (by decide) e3 (fun e6 => ?_) (fun e6 => ?_)
  · have h := e4 e6
    exact v_vret C E dX0_move_59 h
  · have h := e5 e6
    refine v_iload_n C 2 dX0_move_9 rfl ?_
    obtain ⟨e7, e8, e9⟩ := h
    refine v_if_lt (tgt := 59) C dX0_move_10 (by decide) e7 (fun e10 => ?_) (fun e10 => ?_)
    · have h := e8 e10
      exact v_vret C E dX0_move_59 h
    · have h := e9 e10
      refine v_iload_n C 2 dX0_move_13 rfl ?_
      refine v_sipush C dX0_move_14 (by decide) ?_
      obtain ⟨e11, e12, e13⟩ := h
      refine v_icmp_gt (tgt := 59) C dX0_move_17 (by decide) e11 ⟨by decide, by decide⟩ (fun e14 => ?_) (fun e14 => ?_)
      · have h := e12 e14
        exact v_vret C E dX0_move_59 h
      · have h := e13 e14
        refine v_aload_n C 0 dX0_move_20 rfl ?_
        refine v_getA C kX0 0 rfl rfl wd_289 rfl dX0_move_21 ?_
        refine v_iload_n C 1 dX0_move_24 rfl ?_
        obtain ⟨e15, e16, h⟩ := h
        refine v_iald C (ar_of (o := 11) rfl ar_0_0) dX0_move_25 e15 e16 ?_
        obtain ⟨e17, h⟩ := h
        refine v_i2l C dX0_move_26 e17 ?_
        refine v_iload_n C 3 dX0_move_27 rfl ?_
        obtain ⟨e18, h⟩ := h
        refine v_i2l C dX0_move_28 e18 ?_
        refine v_lmul C dX0_move_29 ?_
        refine v_ldc2 (n := 100) C dX0_move_30 wd_764 (by decide) ?_
        refine v_ldiv C dX0_move_33 ⟨by decide, by decide⟩ (by decide) ?_
        refine v_l2i C dX0_move_34 ?_
        refine v_istore C dX0_move_35 (by decide) ?_
        have h := h _ rfl
        refine v_aload_n C 1 dX0_move_37 rfl ?_
        refine v_getA C kX0 0 rfl rfl wd_289 rfl dX0_move_38 ?_
        refine v_iload_n C 2 dX0_move_41 rfl ?_
        refine v_dup2 C dX0_move_42 rfl rfl ?_
        obtain ⟨e19, e20, h⟩ := h
        refine v_iald C (ar_of (o := 11) rfl ar_0_0) dX0_move_43 e19 e20 ?_
        refine v_iload C 0 dX0_move_44 rfl ?_
        refine v_isub C dX0_move_46 ?_
        obtain ⟨e21, e22, h⟩ := h
        refine v_iast C (ar_of (o := 11) rfl ar_0_0) dX0_move_47 e21 e22 ?_
        have h := h _ rfl
        refine v_aload_n C 1 dX0_move_48 rfl ?_
        refine v_getA C kX0 0 rfl rfl wd_289 rfl dX0_move_49 ?_
        refine v_iload_n C 3 dX0_move_52 rfl ?_
        refine v_dup2 C dX0_move_53 rfl rfl ?_
        obtain ⟨e23, e24, h⟩ := h
        refine v_iald C (ar_of (o := 11) rfl ar_0_0) dX0_move_54 e23 e24 ?_
        refine v_iload C 0 dX0_move_55 rfl ?_
        refine v_iadd C dX0_move_57 ?_
        obtain ⟨e25, e26, h⟩ := h
        refine v_iast C (ar_of (o := 11) rfl ar_0_0) dX0_move_58 e25 e26 ?_
        have h := h _ rfl
        exact v_vret C E dX0_move_59 h
def h_X0_headForgets_54 (v1 : Int) (v2 : Int) (Q : TH → Prop) : Nat → Int → TH → Prop
  | 0, _, _ => False
  | n + 1, v3, T => zR v3 ∧ zR (T 11 2 0) ∧ (v3 < (T 11 2 0) → (zR ((T 11 3 0) + v1) ∧ ∀ T1 : TH, T1 = up T 11 3 0 (zmin 432 ((T 11 3 0) + v1)) → Q T1)) ∧ (¬ (v3 < (T 11 2 0)) → (wp_X0_move v3 (v3 + v1) v2 T (fun T2 => (h_X0_headForgets_54 v1 v2 Q n) (v3 + (-1)) T2)))
def h_X0_headForgets_9 (v1 : Int) (v2 : Int) (Q : TH → Prop) : Nat → Int → TH → Prop
  | 0, _, _ => False
  | n + 1, v3, T => zR v3 ∧ zR (T 11 3 0) ∧ ((T 11 3 0) < v3 → (zR ((T 11 2 0) + v1) ∧ ∀ T1 : TH, T1 = up T 11 2 0 (zmax 0 ((T 11 2 0) + v1)) → Q T1)) ∧ (¬ ((T 11 3 0) < v3) → (wp_X0_move v3 (v3 + v1) v2 T (fun T2 => (h_X0_headForgets_9 v1 v2 Q n) (v3 + 1) T2)))
def wp_X0_headForgets (v1 : Int) (v2 : Int) (T : TH) (Q : TH → Prop) : Prop :=
  zR v1 ∧ (0 ≤ v1 → (∀ w1 : Int, w1 = (T 11 3 0) → (∃ m9 : Nat, h_X0_headForgets_54 v1 v2 Q m9 w1 T))) ∧ (¬ (0 ≤ v1) → (∀ w2 : Int, w2 = (T 11 2 0) → (∃ m9 : Nat, h_X0_headForgets_9 v1 v2 Q m9 w2 T)))
set_option maxRecDepth 100000 in
theorem t_X0_headForgets_54 {G : GT} {l0 : Launch} {X : CX} (C : CT G l0 X cX0_headForgets 4 RX0 (rM 1 30)) {Q : TH → Prop} (E : EN G X none (QV G Q)) {v1 : Int} {v2 : Int} : ∀ (n : Nat) (v3 : Int) (T : TH), h_X0_headForgets_54 v1 v2 Q n v3 T → V G X T 54 [(0, .ref (gad G 11)), (1, .int (zI v1)), (2, .int (zI v2)), (3, .int (zI v3))] [] := by
  intro n
  induction n with
  | zero =>
    intro v3 T h
    exact h.elim
  | succ n ih =>
    intro v3 T h
    rw [h_X0_headForgets_54] at h
    refine v_iload_n C 3 dX0_headForgets_54 rfl ?_
    refine v_aload_n C 0 dX0_headForgets_55 rfl ?_
    refine v_getI C kX0 2 rfl rfl wd_291 rfl dX0_headForgets_56 ?_
    obtain ⟨e1, e2, e3, e4⟩ := h
    refine v_icmp_lt (tgt := 77) C dX0_headForgets_59 (by decide) e1 e2 (fun e5 => ?_) (fun e5 => ?_)
    · have h := e3 e5
      refine v_aload_n C 0 dX0_headForgets_77 rfl ?_
      refine v_sipush C dX0_headForgets_78 (by decide) ?_
      refine v_aload_n C 0 dX0_headForgets_81 rfl ?_
      refine v_getI C kX0 3 rfl rfl wd_292 rfl dX0_headForgets_82 ?_
      refine v_iload_n C 1 dX0_headForgets_85 rfl ?_
      refine v_iadd C dX0_headForgets_86 ?_
      obtain ⟨e6, h⟩ := h
      refine v_mmin C ⟨by decide, by decide⟩ e6 wd_751 wd_684 wd_74 wd_685 (by decide) (Nat.le_of_ble_eq_true rfl) dX0_headForgets_87 ?_
      refine v_putI C kX0 3 rfl rfl wd_292 rfl rfl (tyX0_ok 3 (by decide)) dX0_headForgets_90 ?_
      have h := h _ rfl
      exact v_vret C E dX0_headForgets_93 h
    · have h := e4 e5
      refine v_aload_n C 0 dX0_headForgets_62 rfl ?_
      refine v_iload_n C 3 dX0_headForgets_63 rfl ?_
      refine v_iload_n C 3 dX0_headForgets_64 rfl ?_
      refine v_iload_n C 1 dX0_headForgets_65 rfl ?_
      refine v_iadd C dX0_headForgets_66 ?_
      refine v_iload_n C 2 dX0_headForgets_67 rfl ?_
      refine v_cVN C kX0 rfl (s_X0_move G l0 h) mv_X0_move wd_760 ⟨by decide, by decide⟩ rfl rfl (Nat.le_of_ble_eq_true rfl) dX0_headForgets_68 (fun T2 h => ?_)
      refine v_iinc C 3 dX0_headForgets_71 rfl (by decide) ?_
      refine v_goto (tgt := 54) C dX0_headForgets_74 (by decide) ?_
      exact v_sub [1, 2, 3, 0] rfl (ih _ _ h)
set_option maxRecDepth 100000 in
theorem t_X0_headForgets_9 {G : GT} {l0 : Launch} {X : CX} (C : CT G l0 X cX0_headForgets 4 RX0 (rM 1 30)) {Q : TH → Prop} (E : EN G X none (QV G Q)) {v1 : Int} {v2 : Int} : ∀ (n : Nat) (v3 : Int) (T : TH), h_X0_headForgets_9 v1 v2 Q n v3 T → V G X T 9 [(0, .ref (gad G 11)), (1, .int (zI v1)), (2, .int (zI v2)), (3, .int (zI v3))] [] := by
  intro n
  induction n with
  | zero =>
    intro v3 T h
    exact h.elim
  | succ n ih =>
    intro v3 T h
    rw [h_X0_headForgets_9] at h
    refine v_iload_n C 3 dX0_headForgets_9 rfl ?_
    refine v_aload_n C 0 dX0_headForgets_10 rfl ?_
    refine v_getI C kX0 3 rfl rfl wd_292 rfl dX0_headForgets_11 ?_
    obtain ⟨e1, e2, e3, e4⟩ := h
    refine v_icmp_gt (tgt := 32) C dX0_headForgets_14 (by decide) e1 e2 (fun e5 => ?_) (fun e5 => ?_)
    · have h := e3 e5
      refine v_aload_n C 0 dX0_headForgets_32 rfl ?_
      refine v_iconst C dX0_headForgets_33 ?_
      refine v_aload_n C 0 dX0_headForgets_34 rfl ?_
      refine v_getI C kX0 2 rfl rfl wd_291 rfl dX0_headForgets_35 ?_
      refine v_iload_n C 1 dX0_headForgets_38 rfl ?_
      refine v_iadd C dX0_headForgets_39 ?_
      obtain ⟨e6, h⟩ := h
      refine v_mmax C ⟨by decide, by decide⟩ e6 wd_765 wd_766 wd_74 wd_767 (by decide) (Nat.le_of_ble_eq_true rfl) dX0_headForgets_40 ?_
      refine v_putI C kX0 2 rfl rfl wd_291 rfl rfl (tyX0_ok 2 (by decide)) dX0_headForgets_43 ?_
      have h := h _ rfl
      refine v_goto (tgt := 93) C dX0_headForgets_46 (by decide) ?_
      exact v_vret C E dX0_headForgets_93 h
    · have h := e4 e5
      refine v_aload_n C 0 dX0_headForgets_17 rfl ?_
      refine v_iload_n C 3 dX0_headForgets_18 rfl ?_
      refine v_iload_n C 3 dX0_headForgets_19 rfl ?_
      refine v_iload_n C 1 dX0_headForgets_20 rfl ?_
      refine v_iadd C dX0_headForgets_21 ?_
      refine v_iload_n C 2 dX0_headForgets_22 rfl ?_
      refine v_cVN C kX0 rfl (s_X0_move G l0 h) mv_X0_move wd_760 ⟨by decide, by decide⟩ rfl rfl (Nat.le_of_ble_eq_true rfl) dX0_headForgets_23 (fun T2 h => ?_)
      refine v_iinc C 3 dX0_headForgets_26 rfl (by decide) ?_
      refine v_goto (tgt := 9) C dX0_headForgets_29 (by decide) ?_
      exact v_sub [1, 2, 3, 0] rfl (ih _ _ h)
set_option maxRecDepth 100000 in
theorem s_X0_headForgets (G : GT) (l0 : Launch) {v1 : Int} {v2 : Int} {T : TH} {Q : TH → Prop} (h : wp_X0_headForgets v1 v2 T Q) : MT G l0 yX0_headForgets cX0_headForgets 4 none 1 30 [.ref (gad G 11), .int (zI v1), .int (zI v2)] T (QV G Q) := by
  refine mt_of G l0 (by decide) (Nat.le_of_ble_eq_true rfl) (fun X C E => ?_)
  show V G X T 0 [(0, .ref (gad G 11)), (1, .int (zI v1)), (2, .int (zI v2))] []
  unfold wp_X0_headForgets at h
  refine v_iload_n C 1 dX0_headForgets_0 rfl ?_
  obtain ⟨e1, e2, e3⟩ := h
  refine v_if_ge (tgt := 49) C dX0_headForgets_1 (by decide) e1 (fun e4 => ?_) (fun e4 => ?_)
  · have h := e2 e4
    refine v_aload_n C 0 dX0_headForgets_49 rfl ?_
    refine v_getI C kX0 3 rfl rfl wd_292 rfl dX0_headForgets_50 ?_
    refine v_istore_n C dX0_headForgets_53 rfl (by decide) ?_
    have h := h _ rfl
    obtain ⟨n9, h⟩ := h
    exact v_sub [1, 2, 3, 0] rfl (t_X0_headForgets_54 C E n9 _ _ h)
  · have h := e3 e4
    refine v_aload_n C 0 dX0_headForgets_4 rfl ?_
    refine v_getI C kX0 2 rfl rfl wd_291 rfl dX0_headForgets_5 ?_
    refine v_istore_n C dX0_headForgets_8 rfl (by decide) ?_
    have h := h _ rfl
    obtain ⟨n9, h⟩ := h
    exact v_sub [1, 2, 3, 0] rfl (t_X0_headForgets_9 C E n9 _ _ h)
def wp_X2_headsOf (o0 : Nat) (o1 : Nat) (v2 : Int) (T : TH) (Q : Int → TH → Prop) : Prop :=
  0 ≤ v2 ∧ v2 < 8 ∧ 0 ≤ v2 ∧ v2 < 8 ∧ wp_J6_bitCount_0f7a4 (zand (T o0 2 v2) (zxor (zshl 1 (T o1 8 v2)) (-1))) T (fun r2 T1 => Q r2 T1)
set_option maxRecDepth 100000 in
theorem s_X2_headsOf (G : GT) (l0 : Launch) {o0 : Nat} {o1 : Nat} {v2 : Int} {T : TH} {Q : Int → TH → Prop} (ho0 : clsO o0 = 2) (ho1 : clsO o1 = 3) (h : wp_X2_headsOf o0 o1 v2 T Q) : MT G l0 yX2_headsOf cX2_headsOf 3 (some .int) 1 20 [.ref (gad G o0), .ref (gad G o1), .int (zI v2)] T (QI G Q) := by
  refine mt_of G l0 (by decide) (Nat.le_of_ble_eq_true rfl) (fun X C E => ?_)
  show V G X T 0 [(0, .ref (gad G o0)), (1, .ref (gad G o1)), (2, .int (zI v2))] []
  unfold wp_X2_headsOf at h
  refine v_aload_n C 0 dX2_headsOf_0 rfl ?_
  refine v_getA C kX2 2 ho0 rfl wd_217 rfl dX2_headsOf_1 ?_
  refine v_iload_n C 2 dX2_headsOf_4 rfl ?_
  obtain ⟨e1, e2, h⟩ := h
  refine v_iald C (ar_of ho0 ar_2_2) dX2_headsOf_5 e1 e2 ?_
  refine v_iconst C dX2_headsOf_6 ?_
  refine v_aload_n C 1 dX2_headsOf_7 rfl ?_
  refine v_getA C kX3 8 ho1 rfl wd_152 rfl dX2_headsOf_8 ?_
  refine v_iload_n C 2 dX2_headsOf_11 rfl ?_
  obtain ⟨e3, e4, h⟩ := h
  refine v_iald C (ar_of ho1 ar_3_8) dX2_headsOf_12 e3 e4 ?_
  refine v_ishl C dX2_headsOf_13 ?_
  refine v_iconst C dX2_headsOf_14 ?_
  refine v_ixor C dX2_headsOf_15 ?_
  refine v_iand C dX2_headsOf_16 ?_
  refine v_cSI C (s_J6_bitCount_0f7a4 G l0 h) mv_J6_bitCount_0f7a4 wd_479 ⟨by decide, by decide⟩ rfl rfl (Nat.le_of_ble_eq_true rfl) dX2_headsOf_17 (fun r2 T1 h => ?_)
  exact v_iret C E dX2_headsOf_20 h
def b_X2_gramsOf_41 (o0 : Nat) (o1 : Nat) (v2 : Int) (Q : Int → TH → Prop) (K5 : Int → Int → TH → Prop) (v3 : Int) (v4 : Int) (T : TH) : Prop :=
  K5 v3 (v4 + 1) T
def h_X2_gramsOf_5 (o0 : Nat) (o1 : Nat) (v2 : Int) (Q : Int → TH → Prop) : Nat → Int → Int → TH → Prop
  | 0, _, _, _ => False
  | n + 1, v3, v4, T => zR v4 ∧ zR (T o1 1 0) ∧ ((T o1 1 0) ≤ v4 → (Q v3 T)) ∧ (¬ ((T o1 1 0) ≤ v4) → (zR (zand (zshr v2 v4) 1) ∧ ((zand (zshr v2 v4) 1) = 0 → (b_X2_gramsOf_41 o0 o1 v2 Q (h_X2_gramsOf_5 o0 o1 v2 Q n) v3 v4 T)) ∧ (¬ ((zand (zshr v2 v4) 1) = 0) → (0 ≤ v4 ∧ v4 < 8 ∧ wp_X2_headsOf o0 o1 v4 T (fun r2 T1 => ∀ w3 : Int, w3 = (v3 + ((T o1 9 v4) * r2)) → b_X2_gramsOf_41 o0 o1 v2 Q (h_X2_gramsOf_5 o0 o1 v2 Q n) w3 v4 T1)))))
def wp_X2_gramsOf (o0 : Nat) (o1 : Nat) (v2 : Int) (T : TH) (Q : Int → TH → Prop) : Prop :=
  (∃ m9 : Nat, h_X2_gramsOf_5 o0 o1 v2 Q m9 0 0 T)
set_option maxRecDepth 100000 in
theorem t_X2_gramsOf_41 {G : GT} {l0 : Launch} {X : CX} (C : CT G l0 X cX2_gramsOf 5 RX2 (rM 2 42)) {Q : Int → TH → Prop} (E : EN G X (some .int) (QI G Q)) {o0 : Nat} {o1 : Nat} {v2 : Int} (ho0 : clsO o0 = 2) (ho1 : clsO o1 = 3) {K5 : Int → Int → TH → Prop} (k5 : ∀ (v3 : Int) (v4 : Int) (T : TH), K5 v3 v4 T → V G X T 5 [(0, .ref (gad G o0)), (1, .ref (gad G o1)), (2, .int (zI v2)), (3, .int (zI v3)), (4, .int (zI v4))] []) {v3 : Int} {v4 : Int} {T : TH} (h : b_X2_gramsOf_41 o0 o1 v2 Q K5 v3 v4 T) : V G X T 41 [(0, .ref (gad G o0)), (1, .ref (gad G o1)), (2, .int (zI v2)), (3, .int (zI v3)), (4, .int (zI v4))] [] := by
  unfold b_X2_gramsOf_41 at h
  refine v_iinc C 4 dX2_gramsOf_41 rfl (by decide) ?_
  refine v_goto (tgt := 5) C dX2_gramsOf_44 (by decide) ?_
  exact v_sub [1, 2, 3, 4, 0] rfl (k5 _ _ _ h)
set_option maxRecDepth 100000 in
theorem t_X2_gramsOf_5 {G : GT} {l0 : Launch} {X : CX} (C : CT G l0 X cX2_gramsOf 5 RX2 (rM 2 42)) {Q : Int → TH → Prop} (E : EN G X (some .int) (QI G Q)) {o0 : Nat} {o1 : Nat} {v2 : Int} (ho0 : clsO o0 = 2) (ho1 : clsO o1 = 3) : ∀ (n : Nat) (v3 : Int) (v4 : Int) (T : TH), h_X2_gramsOf_5 o0 o1 v2 Q n v3 v4 T → V G X T 5 [(0, .ref (gad G o0)), (1, .ref (gad G o1)), (2, .int (zI v2)), (3, .int (zI v3)), (4, .int (zI v4))] [] := by
  intro n
  induction n with
  | zero =>
    intro v3 v4 T h
    exact h.elim
  | succ n ih =>
    intro v3 v4 T h
    rw [h_X2_gramsOf_5] at h
    refine v_iload C 4 dX2_gramsOf_5 rfl ?_
    refine v_aload_n C 1 dX2_gramsOf_7 rfl ?_
    refine v_getI C kX3 1 ho1 rfl wd_124 rfl dX2_gramsOf_8 ?_
    obtain ⟨e1, e2, e3, e4⟩ := h
    refine v_icmp_ge (tgt := 47) C dX2_gramsOf_11 (by decide) e1 e2 (fun e5 => ?_) (fun e5 => ?_)
    · have h := e3 e5
      refine v_iload_n C 3 dX2_gramsOf_47 rfl ?_
      exact v_iret C E dX2_gramsOf_48 h
    · have h := e4 e5
      refine v_iload_n C 2 dX2_gramsOf_14 rfl ?_
      refine v_iload C 4 dX2_gramsOf_15 rfl ?_
      refine v_ishr C dX2_gramsOf_17 ?_
      refine v_iconst C dX2_gramsOf_18 ?_
      refine v_iand C dX2_gramsOf_19 ?_
      obtain ⟨e6, e7, e8⟩ := h
      refine v_if_eq (tgt := 41) C dX2_gramsOf_20 (by decide) e6 (fun e9 => ?_) (fun e9 => ?_)
      · have h := e7 e9
        exact v_sub [0, 1, 2, 3, 4] rfl (t_X2_gramsOf_41 C E ho0 ho1 ih h)
      · have h := e8 e9
        refine v_iload_n C 3 dX2_gramsOf_23 rfl ?_
        refine v_aload_n C 1 dX2_gramsOf_24 rfl ?_
        refine v_getA C kX3 9 ho1 rfl wd_157 rfl dX2_gramsOf_25 ?_
        refine v_iload C 4 dX2_gramsOf_28 rfl ?_
        obtain ⟨e10, e11, h⟩ := h
        refine v_iald C (ar_of ho1 ar_3_9) dX2_gramsOf_30 e10 e11 ?_
        refine v_aload_n C 0 dX2_gramsOf_31 rfl ?_
        refine v_aload_n C 1 dX2_gramsOf_32 rfl ?_
        refine v_iload C 4 dX2_gramsOf_33 rfl ?_
        refine v_cVI C kX2 ho0 (s_X2_headsOf G l0 ho0 ho1 h) mv_X2_headsOf wd_475 ⟨by decide, by decide⟩ rfl rfl (Nat.le_of_ble_eq_true rfl) dX2_gramsOf_35 (fun r2 T1 h => ?_)
        refine v_imul C dX2_gramsOf_38 ?_
        refine v_iadd C dX2_gramsOf_39 ?_
        refine v_istore_n C dX2_gramsOf_40 rfl (by decide) ?_
        have h := h _ rfl
        exact v_sub [1, 2, 3, 0, 4] rfl (t_X2_gramsOf_41 C E ho0 ho1 ih h)
set_option maxRecDepth 100000 in
theorem s_X2_gramsOf (G : GT) (l0 : Launch) {o0 : Nat} {o1 : Nat} {v2 : Int} {T : TH} {Q : Int → TH → Prop} (ho0 : clsO o0 = 2) (ho1 : clsO o1 = 3) (h : wp_X2_gramsOf o0 o1 v2 T Q) : MT G l0 yX2_gramsOf cX2_gramsOf 5 (some .int) 2 42 [.ref (gad G o0), .ref (gad G o1), .int (zI v2)] T (QI G Q) := by
  refine mt_of G l0 (by decide) (Nat.le_of_ble_eq_true rfl) (fun X C E => ?_)
  show V G X T 0 [(0, .ref (gad G o0)), (1, .ref (gad G o1)), (2, .int (zI v2))] []
  unfold wp_X2_gramsOf at h
  refine v_iconst C dX2_gramsOf_0 ?_
  refine v_istore_n C dX2_gramsOf_1 rfl (by decide) ?_
  refine v_iconst C dX2_gramsOf_2 ?_
  refine v_istore C dX2_gramsOf_3 (by decide) ?_
  obtain ⟨n9, h⟩ := h
  exact v_sub [2, 3, 4, 1, 0] rfl (t_X2_gramsOf_5 C E ho0 ho1 n9 _ _ _ h)
def wp_X3_isLie (o0 : Nat) (v1 : Int) (T : TH) (Q : Bool → TH → Prop) : Prop :=
  zR (zand (zshr (T o0 6 0) v1) 1) ∧ ((zand (zshr (T o0 6 0) v1) 1) = 0 → (Q false T)) ∧ (¬ ((zand (zshr (T o0 6 0) v1) 1) = 0) → (Q true T))
set_option maxRecDepth 100000 in
theorem s_X3_isLie (G : GT) (l0 : Launch) {o0 : Nat} {v1 : Int} {T : TH} {Q : Bool → TH → Prop} (ho0 : clsO o0 = 3) (h : wp_X3_isLie o0 v1 T Q) : MT G l0 yX3_isLie cX3_isLie 2 (some .boolean) 0 0 [.ref (gad G o0), .int (zI v1)] T (QZ G Q) := by
  refine mt_of G l0 (by decide) (Nat.le_of_ble_eq_true rfl) (fun X C E => ?_)
  show V G X T 0 [(0, .ref (gad G o0)), (1, .int (zI v1))] []
  unfold wp_X3_isLie at h
  refine v_aload_n C 0 dX3_isLie_0 rfl ?_
  refine v_getI C kX3 6 ho0 rfl wd_144 rfl dX3_isLie_1 ?_
  refine v_iload_n C 1 dX3_isLie_4 rfl ?_
  refine v_ishr C dX3_isLie_5 ?_
  refine v_iconst C dX3_isLie_6 ?_
  refine v_iand C dX3_isLie_7 ?_
  obtain ⟨e1, e2, e3⟩ := h
  refine v_if_eq (tgt := 15) C dX3_isLie_8 (by decide) e1 (fun e4 => ?_) (fun e4 => ?_)
  · have h := e2 e4
    refine v_iconst C dX3_isLie_15 ?_
    exact v_zret (z := false) C E dX3_isLie_16 h
  · have h := e3 e4
    refine v_iconst C dX3_isLie_11 ?_
    refine v_goto (tgt := 16) C dX3_isLie_12 (by decide) ?_
    exact v_zret (z := true) C E dX3_isLie_16 h
def wp_X3_pull (o0 : Nat) (v1 : Int) (T : TH) (Q : Int → TH → Prop) : Prop :=
  wp_X3_isLie o0 v1 T (fun p2 T1 => (p2 = false → (0 ≤ v1 ∧ v1 < 8 ∧ Q (T1 o0 9 v1) T1)) ∧ (p2 = true → (0 ≤ v1 ∧ v1 < 8 ∧ Q (-(T1 o0 9 v1)) T1)))
set_option maxRecDepth 100000 in
theorem s_X3_pull (G : GT) (l0 : Launch) {o0 : Nat} {v1 : Int} {T : TH} {Q : Int → TH → Prop} (ho0 : clsO o0 = 3) (h : wp_X3_pull o0 v1 T Q) : MT G l0 yX3_pull cX3_pull 2 (some .int) 1 21 [.ref (gad G o0), .int (zI v1)] T (QI G Q) := by
  refine mt_of G l0 (by decide) (Nat.le_of_ble_eq_true rfl) (fun X C E => ?_)
  show V G X T 0 [(0, .ref (gad G o0)), (1, .int (zI v1))] []
  unfold wp_X3_pull at h
  refine v_aload_n C 0 dX3_pull_0 rfl ?_
  refine v_iload_n C 1 dX3_pull_1 rfl ?_
  refine v_cVZ C kX3 ho0 (s_X3_isLie G l0 ho0 h) mv_X3_isLie wd_698 ⟨by decide, by decide⟩ rfl rfl (Nat.le_of_ble_eq_true rfl) dX3_pull_2 (fun p2 T1 h => ?_)
  obtain ⟨e1, e2⟩ := h
  refine v_ifz_eq (tgt := 18) C dX3_pull_5 (by decide) (fun e3 => ?_) (fun e3 => ?_)
  · have h := e1 e3
    refine v_aload_n C 0 dX3_pull_18 rfl ?_
    refine v_getA C kX3 9 ho0 rfl wd_153 rfl dX3_pull_19 ?_
    refine v_iload_n C 1 dX3_pull_22 rfl ?_
    obtain ⟨e4, e5, h⟩ := h
    refine v_iald C (ar_of ho0 ar_3_9) dX3_pull_23 e4 e5 ?_
    exact v_iret C E dX3_pull_24 h
  · have h := e2 e3
    refine v_aload_n C 0 dX3_pull_8 rfl ?_
    refine v_getA C kX3 9 ho0 rfl wd_153 rfl dX3_pull_9 ?_
    refine v_iload_n C 1 dX3_pull_12 rfl ?_
    obtain ⟨e6, e7, h⟩ := h
    refine v_iald C (ar_of ho0 ar_3_9) dX3_pull_13 e6 e7 ?_
    refine v_ineg C dX3_pull_14 ?_
    refine v_goto (tgt := 24) C dX3_pull_15 (by decide) ?_
    exact v_iret C E dX3_pull_24 h
def h_X0_spread_115 (o1 : Nat) (o2 : Nat) (v3 : Int) (v4 : Int) (Q : TH → Prop) (K79 : Int → TH → Prop) : Nat → Int → Int → Int → TH → Prop
  | 0, _, _, _, _ => False
  | n + 1, v6, v7, v8, T => zR v8 ∧ zR v7 ∧ (v7 ≤ v8 → (K79 (v6 + 1) T)) ∧ (¬ (v7 ≤ v8) → (wp_X3_pull o1 v6 T (fun r2 T1 => wp_X0_headForgets (-r2) v4 T1 (fun T3 => (h_X0_spread_115 o1 o2 v3 v4 Q K79 n) v6 v7 (v8 + 1) T3))))
def b_X0_spread_110 (o1 : Nat) (o2 : Nat) (v3 : Int) (v4 : Int) (Q : TH → Prop) (K79 : Int → TH → Prop) (v6 : Int) (s0 : Int) (T : TH) : Prop :=
  (∃ m9 : Nat, h_X0_spread_115 o1 o2 v3 v4 Q K79 m9 v6 s0 0 T)
def h_X0_spread_79 (o1 : Nat) (o2 : Nat) (v3 : Int) (v4 : Int) (Q : TH → Prop) : Nat → Int → TH → Prop
  | 0, _, _ => False
  | n + 1, v6, T => zR v6 ∧ zR (T o1 1 0) ∧ ((T o1 1 0) ≤ v6 → (Q T)) ∧ (¬ ((T o1 1 0) ≤ v6) → (0 ≤ v6 ∧ v6 < 8 ∧ zR (T o1 8 v6) ∧ zR v3 ∧ (¬ (T o1 8 v6) = v3 → (b_X0_spread_110 o1 o2 v3 v4 Q (h_X0_spread_79 o1 o2 v3 v4 Q n) v6 0 T)) ∧ ((T o1 8 v6) = v3 → (wp_X2_headsOf o2 o1 v6 T (fun r2 T1 => b_X0_spread_110 o1 o2 v3 v4 Q (h_X0_spread_79 o1 o2 v3 v4 Q n) v6 r2 T1)))))
def wp_X0_spread (o1 : Nat) (o2 : Nat) (v3 : Int) (v4 : Int) (T : TH) (Q : TH → Prop) : Prop :=
  0 ≤ v3 ∧ v3 < 7 ∧ ∀ w1 : Int, w1 = (T o1 11 v3) → wp_X2_gramsOf o2 o1 (zand w1 (T o1 6 0)) T (fun r3 T2 => ∀ T4 : TH, T4 = up T2 11 1 0 (-r3) → wp_X2_gramsOf o2 o1 (zand w1 (zxor (T4 o1 6 0) (-1))) T4 (fun r6 T5 => zR r6 ∧ ∀ T7 : TH, T7 = up T5 11 2 0 (zmin 432 r6) → ∀ T8 : TH, T8 = up T7 11 3 0 (T7 11 2 0) → wp_J7_fill_53178 11 0 433 0 T8 (fun T9 => 0 ≤ (T9 11 2 0) ∧ (T9 11 2 0) < 433 ∧ ∀ T10 : TH, T10 = up T9 11 0 (T9 11 2 0) 1000000000 → (∃ m9 : Nat, h_X0_spread_79 o1 o2 v3 v4 Q m9 0 T10))))
set_option maxRecDepth 100000 in
theorem t_X0_spread_115 {G : GT} {l0 : Launch} {X : CX} (C : CT G l0 X cX0_spread 9 RX0 (rM 3 66)) {Q : TH → Prop} (E : EN G X none (QV G Q)) {o1 : Nat} {o2 : Nat} {v3 : Int} {v4 : Int} (ho1 : clsO o1 = 3) (ho2 : clsO o2 = 2) {K79 : Int → TH → Prop} (k79 : ∀ (v6 : Int) (T : TH), K79 v6 T → V G X T 79 [(0, .ref (gad G 11)), (1, .ref (gad G o1)), (2, .ref (gad G o2)), (3, .int (zI v3)), (4, .int (zI v4)), (6, .int (zI v6))] []) : ∀ (n : Nat) (v6 : Int) (v7 : Int) (v8 : Int) (T : TH), h_X0_spread_115 o1 o2 v3 v4 Q K79 n v6 v7 v8 T → V G X T 115 [(0, .ref (gad G 11)), (1, .ref (gad G o1)), (2, .ref (gad G o2)), (3, .int (zI v3)), (4, .int (zI v4)), (6, .int (zI v6)), (7, .int (zI v7)), (8, .int (zI v8))] [] := by
  intro n
  induction n with
  | zero =>
    intro v6 v7 v8 T h
    exact h.elim
  | succ n ih =>
    intro v6 v7 v8 T h
    rw [h_X0_spread_115] at h
    refine v_iload C 7 dX0_spread_115 rfl ?_
    refine v_iload C 6 dX0_spread_117 rfl ?_
    obtain ⟨e1, e2, e3, e4⟩ := h
    refine v_icmp_ge (tgt := 141) C dX0_spread_119 (by decide) e1 e2 (fun e5 => ?_) (fun e5 => ?_)
    · have h := e3 e5
      refine v_iinc C 5 dX0_spread_141 rfl (by decide) ?_
      refine v_goto (tgt := 79) C dX0_spread_144 (by decide) ?_
      exact v_sub [1, 2, 3, 4, 5, 0] rfl (k79 _ _ h)
    · have h := e4 e5
      refine v_aload_n C 0 dX0_spread_122 rfl ?_
      refine v_aload_n C 1 dX0_spread_123 rfl ?_
      refine v_iload C 5 dX0_spread_124 rfl ?_
      refine v_cVI C kX3 ho1 (s_X3_pull G l0 ho1 h) mv_X3_pull wd_755 ⟨by decide, by decide⟩ rfl rfl (Nat.le_of_ble_eq_true rfl) dX0_spread_126 (fun r2 T1 h => ?_)
      refine v_ineg C dX0_spread_129 ?_
      refine v_iload C 4 dX0_spread_130 rfl ?_
      refine v_cVN C kX0 rfl (s_X0_headForgets G l0 h) mv_X0_headForgets wd_756 ⟨by decide, by decide⟩ rfl rfl (Nat.le_of_ble_eq_true rfl) dX0_spread_132 (fun T3 h => ?_)
      refine v_iinc C 7 dX0_spread_135 rfl (by decide) ?_
      refine v_goto (tgt := 115) C dX0_spread_138 (by decide) ?_
      exact v_sub [1, 2, 3, 4, 5, 6, 7, 0] rfl (ih _ _ _ _ h)
set_option maxRecDepth 100000 in
theorem t_X0_spread_110 {G : GT} {l0 : Launch} {X : CX} (C : CT G l0 X cX0_spread 9 RX0 (rM 3 66)) {Q : TH → Prop} (E : EN G X none (QV G Q)) {o1 : Nat} {o2 : Nat} {v3 : Int} {v4 : Int} (ho1 : clsO o1 = 3) (ho2 : clsO o2 = 2) {K79 : Int → TH → Prop} (k79 : ∀ (v6 : Int) (T : TH), K79 v6 T → V G X T 79 [(0, .ref (gad G 11)), (1, .ref (gad G o1)), (2, .ref (gad G o2)), (3, .int (zI v3)), (4, .int (zI v4)), (6, .int (zI v6))] []) {v6 : Int} {s0 : Int} {T : TH} (h : b_X0_spread_110 o1 o2 v3 v4 Q K79 v6 s0 T) : V G X T 110 [(0, .ref (gad G 11)), (1, .ref (gad G o1)), (2, .ref (gad G o2)), (3, .int (zI v3)), (4, .int (zI v4)), (6, .int (zI v6))] [.int (zI s0)] := by
  unfold b_X0_spread_110 at h
  refine v_istore C dX0_spread_110 (by decide) ?_
  refine v_iconst C dX0_spread_112 ?_
  refine v_istore C dX0_spread_113 (by decide) ?_
  obtain ⟨n9, h⟩ := h
  exact v_sub [2, 3, 4, 5, 6, 7, 1, 0] rfl (t_X0_spread_115 C E ho1 ho2 k79 n9 _ _ _ _ h)
set_option maxRecDepth 100000 in
theorem t_X0_spread_79 {G : GT} {l0 : Launch} {X : CX} (C : CT G l0 X cX0_spread 9 RX0 (rM 3 66)) {Q : TH → Prop} (E : EN G X none (QV G Q)) {o1 : Nat} {o2 : Nat} {v3 : Int} {v4 : Int} (ho1 : clsO o1 = 3) (ho2 : clsO o2 = 2) : ∀ (n : Nat) (v6 : Int) (T : TH), h_X0_spread_79 o1 o2 v3 v4 Q n v6 T → V G X T 79 [(0, .ref (gad G 11)), (1, .ref (gad G o1)), (2, .ref (gad G o2)), (3, .int (zI v3)), (4, .int (zI v4)), (6, .int (zI v6))] [] := by
  intro n
  induction n with
  | zero =>
    intro v6 T h
    exact h.elim
  | succ n ih =>
    intro v6 T h
    rw [h_X0_spread_79] at h
    refine v_iload C 5 dX0_spread_79 rfl ?_
    refine v_aload_n C 1 dX0_spread_81 rfl ?_
    refine v_getI C kX3 1 ho1 rfl wd_126 rfl dX0_spread_82 ?_
    obtain ⟨e1, e2, e3, e4⟩ := h
    refine v_icmp_ge (tgt := 147) C dX0_spread_85 (by decide) e1 e2 (fun e5 => ?_) (fun e5 => ?_)
    · have h := e3 e5
      exact v_vret C E dX0_spread_147 h
    · have h := e4 e5
      refine v_aload_n C 1 dX0_spread_88 rfl ?_
      refine v_getA C kX3 8 ho1 rfl wd_150 rfl dX0_spread_89 ?_
      refine v_iload C 5 dX0_spread_92 rfl ?_
      obtain ⟨e6, e7, h⟩ := h
      refine v_iald C (ar_of ho1 ar_3_8) dX0_spread_94 e6 e7 ?_
      refine v_iload_n C 3 dX0_spread_95 rfl ?_
      obtain ⟨e8, e9, e10, e11⟩ := h
      refine v_icmp_ne (tgt := 109) C dX0_spread_96 (by decide) e8 e9 (fun e12 => ?_) (fun e12 => ?_)
      · have h := e10 e12
        refine v_iconst C dX0_spread_109 ?_
        exact v_sub [0, 1, 2, 3, 4, 5] rfl (t_X0_spread_110 C E ho1 ho2 ih h)
      · have h := e11 e12
        refine v_aload_n C 2 dX0_spread_99 rfl ?_
        refine v_aload_n C 1 dX0_spread_100 rfl ?_
        refine v_iload C 5 dX0_spread_101 rfl ?_
        refine v_cVI C kX2 ho2 (s_X2_headsOf G l0 ho2 ho1 h) mv_X2_headsOf wd_754 ⟨by decide, by decide⟩ rfl rfl (Nat.le_of_ble_eq_true rfl) dX0_spread_103 (fun r2 T1 h => ?_)
        refine v_goto (tgt := 110) C dX0_spread_106 (by decide) ?_
        exact v_sub [0, 1, 2, 3, 4, 5] rfl (t_X0_spread_110 C E ho1 ho2 ih h)
set_option maxRecDepth 100000 in
theorem s_X0_spread (G : GT) (l0 : Launch) {o1 : Nat} {o2 : Nat} {v3 : Int} {v4 : Int} {T : TH} {Q : TH → Prop} (ho1 : clsO o1 = 3) (ho2 : clsO o2 = 2) (h : wp_X0_spread o1 o2 v3 v4 T Q) : MT G l0 yX0_spread cX0_spread 9 none 3 66 [.ref (gad G 11), .ref (gad G o1), .ref (gad G o2), .int (zI v3), .int (zI v4)] T (QV G Q) := by
  refine mt_of G l0 (by decide) (Nat.le_of_ble_eq_true rfl) (fun X C E => ?_)
  show V G X T 0 [(0, .ref (gad G 11)), (1, .ref (gad G o1)), (2, .ref (gad G o2)), (3, .int (zI v3)), (4, .int (zI v4))] []
  unfold wp_X0_spread at h
  refine v_aload_n C 1 dX0_spread_0 rfl ?_
  refine v_getA C kX3 11 ho1 rfl wd_162 rfl dX0_spread_1 ?_
  refine v_iload_n C 3 dX0_spread_4 rfl ?_
  obtain ⟨e1, e2, h⟩ := h
  refine v_iald C (ar_of ho1 ar_3_11) dX0_spread_5 e1 e2 ?_
  refine v_istore C dX0_spread_6 (by decide) ?_
  have h := h _ rfl
  refine v_aload_n C 1 dX0_spread_8 rfl ?_
  refine v_aload_n C 3 dX0_spread_9 rfl ?_
  refine v_aload_n C 2 dX0_spread_10 rfl ?_
  refine v_iload C 0 dX0_spread_11 rfl ?_
  refine v_aload_n C 2 dX0_spread_13 rfl ?_
  refine v_getI C kX3 6 ho1 rfl wd_143 rfl dX0_spread_14 ?_
  refine v_iand C dX0_spread_17 ?_
  refine v_cVI C kX2 ho2 (s_X2_gramsOf G l0 ho2 ho1 h) mv_X2_gramsOf wd_750 ⟨by decide, by decide⟩ rfl rfl (Nat.le_of_ble_eq_true rfl) dX0_spread_18 (fun r3 T2 h => ?_)
  refine v_ineg C dX0_spread_21 ?_
  refine v_putI C kX0 1 rfl rfl wd_290 rfl rfl (tyX0_ok 1 (by decide)) dX0_spread_22 ?_
  have h := h _ rfl
  refine v_aload_n C 1 dX0_spread_25 rfl ?_
  refine v_sipush C dX0_spread_26 (by decide) ?_
  refine v_aload_n C 3 dX0_spread_29 rfl ?_
  refine v_aload_n C 2 dX0_spread_30 rfl ?_
  refine v_iload C 0 dX0_spread_31 rfl ?_
  refine v_aload_n C 2 dX0_spread_33 rfl ?_
  refine v_getI C kX3 6 ho1 rfl wd_143 rfl dX0_spread_34 ?_
  refine v_iconst C dX0_spread_37 ?_
  refine v_ixor C dX0_spread_38 ?_
  refine v_iand C dX0_spread_39 ?_
  refine v_cVI C kX2 ho2 (s_X2_gramsOf G l0 ho2 ho1 h) mv_X2_gramsOf wd_750 ⟨by decide, by decide⟩ rfl rfl (Nat.le_of_ble_eq_true rfl) dX0_spread_40 (fun r6 T5 h => ?_)
  obtain ⟨e3, h⟩ := h
  refine v_mmin C ⟨by decide, by decide⟩ e3 wd_751 wd_684 wd_74 wd_685 (by decide) (Nat.le_of_ble_eq_true rfl) dX0_spread_43 ?_
  refine v_putI C kX0 2 rfl rfl wd_291 rfl rfl (tyX0_ok 2 (by decide)) dX0_spread_46 ?_
  have h := h _ rfl
  refine v_aload_n C 1 dX0_spread_49 rfl ?_
  refine v_aload_n C 1 dX0_spread_50 rfl ?_
  refine v_getI C kX0 2 rfl rfl wd_291 rfl dX0_spread_51 ?_
  refine v_putI C kX0 3 rfl rfl wd_292 rfl rfl (tyX0_ok 3 (by decide)) dX0_spread_54 ?_
  have h := h _ rfl
  refine v_aload_n C 1 dX0_spread_57 rfl ?_
  refine v_getA C kX0 0 rfl rfl wd_289 rfl dX0_spread_58 ?_
  refine v_iconst C dX0_spread_61 ?_
  refine v_cSN C (s_J7_fill_53178 G l0 (ar_of (o := 11) rfl ar_0_0) h) mv_J7_fill_53178 wd_752 ⟨by decide, by decide⟩ rfl rfl (Nat.le_of_ble_eq_true rfl) dX0_spread_62 (fun T9 h => ?_)
  refine v_aload_n C 1 dX0_spread_65 rfl ?_
  refine v_getA C kX0 0 rfl rfl wd_289 rfl dX0_spread_66 ?_
  refine v_aload_n C 1 dX0_spread_69 rfl ?_
  refine v_getI C kX0 2 rfl rfl wd_291 rfl dX0_spread_70 ?_
  refine v_ldc (n := 1000000000) C dX0_spread_73 wd_753 (by decide) ?_
  obtain ⟨e4, e5, h⟩ := h
  refine v_iast C (ar_of (o := 11) rfl ar_0_0) dX0_spread_75 e4 e5 ?_
  have h := h _ rfl
  refine v_iconst C dX0_spread_76 ?_
  refine v_istore C dX0_spread_77 (by decide) ?_
  obtain ⟨n9, h⟩ := h
  exact v_sub [2, 3, 4, 5, 6, 0] rfl (t_X0_spread_79 C E ho1 ho2 n9 _ _ h)
def h_X0_upTo_7 (v1 : Int) (Q : Int → TH → Prop) : Nat → Int → Int → TH → Prop
  | 0, _, _, _ => False
  | n + 1, v2, v3, T => zR v3 ∧ zR (T 11 3 0) ∧ ((T 11 3 0) < v3 → (Q v2 T)) ∧ (¬ ((T 11 3 0) < v3) → (zR ((T 11 1 0) + v3) ∧ zR v1 ∧ (v1 < ((T 11 1 0) + v3) → (Q v2 T)) ∧ (¬ (v1 < ((T 11 1 0) + v3)) → (0 ≤ v3 ∧ v3 < 433 ∧ ∀ w1 : Int, w1 = (v2 + (T 11 0 v3)) → (h_X0_upTo_7 v1 Q n) w1 (v3 + 1) T))))
def wp_X0_upTo (v1 : Int) (T : TH) (Q : Int → TH → Prop) : Prop :=
  ∀ w1 : Int, w1 = (T 11 2 0) → (∃ m9 : Nat, h_X0_upTo_7 v1 Q m9 0 w1 T)
set_option maxRecDepth 100000 in
theorem t_X0_upTo_7 {G : GT} {l0 : Launch} {X : CX} (C : CT G l0 X cX0_upTo 4 RX0 (rM 0 0)) {Q : Int → TH → Prop} (E : EN G X (some .int) (QI G Q)) {v1 : Int} : ∀ (n : Nat) (v2 : Int) (v3 : Int) (T : TH), h_X0_upTo_7 v1 Q n v2 v3 T → V G X T 7 [(0, .ref (gad G 11)), (1, .int (zI v1)), (2, .int (zI v2)), (3, .int (zI v3))] [] := by
  intro n
  induction n with
  | zero =>
    intro v2 v3 T h
    exact h.elim
  | succ n ih =>
    intro v2 v3 T h
    rw [h_X0_upTo_7] at h
    refine v_iload_n C 3 dX0_upTo_7 rfl ?_
    refine v_aload_n C 0 dX0_upTo_8 rfl ?_
    refine v_getI C kX0 3 rfl rfl wd_292 rfl dX0_upTo_9 ?_
    obtain ⟨e1, e2, e3, e4⟩ := h
    refine v_icmp_gt (tgt := 40) C dX0_upTo_12 (by decide) e1 e2 (fun e5 => ?_) (fun e5 => ?_)
    · have h := e3 e5
      refine v_iload_n C 2 dX0_upTo_40 rfl ?_
      exact v_iret C E dX0_upTo_41 h
    · have h := e4 e5
      refine v_aload_n C 0 dX0_upTo_15 rfl ?_
      refine v_getI C kX0 1 rfl rfl wd_290 rfl dX0_upTo_16 ?_
      refine v_iload_n C 3 dX0_upTo_19 rfl ?_
      refine v_iadd C dX0_upTo_20 ?_
      refine v_iload_n C 1 dX0_upTo_21 rfl ?_
      obtain ⟨e6, e7, e8, e9⟩ := h
      refine v_icmp_gt (tgt := 40) C dX0_upTo_22 (by decide) e6 e7 (fun e10 => ?_) (fun e10 => ?_)
      · have h := e8 e10
        refine v_iload_n C 2 dX0_upTo_40 rfl ?_
        exact v_iret C E dX0_upTo_41 h
      · have h := e9 e10
        refine v_iload_n C 2 dX0_upTo_25 rfl ?_
        refine v_aload_n C 0 dX0_upTo_26 rfl ?_
        refine v_getA C kX0 0 rfl rfl wd_289 rfl dX0_upTo_27 ?_
        refine v_iload_n C 3 dX0_upTo_30 rfl ?_
        obtain ⟨e11, e12, h⟩ := h
        refine v_iald C (ar_of (o := 11) rfl ar_0_0) dX0_upTo_31 e11 e12 ?_
        refine v_iadd C dX0_upTo_32 ?_
        refine v_istore_n C dX0_upTo_33 rfl (by decide) ?_
        have h := h _ rfl
        refine v_iinc C 3 dX0_upTo_34 rfl (by decide) ?_
        refine v_goto (tgt := 7) C dX0_upTo_37 (by decide) ?_
        exact v_sub [2, 3, 1, 0] rfl (ih _ _ _ h)
set_option maxRecDepth 100000 in
theorem s_X0_upTo (G : GT) (l0 : Launch) {v1 : Int} {T : TH} {Q : Int → TH → Prop} (h : wp_X0_upTo v1 T Q) : MT G l0 yX0_upTo cX0_upTo 4 (some .int) 0 0 [.ref (gad G 11), .int (zI v1)] T (QI G Q) := by
  refine mt_of G l0 (by decide) (Nat.le_of_ble_eq_true rfl) (fun X C E => ?_)
  show V G X T 0 [(0, .ref (gad G 11)), (1, .int (zI v1))] []
  unfold wp_X0_upTo at h
  refine v_iconst C dX0_upTo_0 ?_
  refine v_istore_n C dX0_upTo_1 rfl (by decide) ?_
  refine v_aload_n C 1 dX0_upTo_2 rfl ?_
  refine v_getI C kX0 2 rfl rfl wd_291 rfl dX0_upTo_3 ?_
  refine v_istore_n C dX0_upTo_6 rfl (by decide) ?_
  have h := h _ rfl
  obtain ⟨n9, h⟩ := h
  exact v_sub [2, 3, 1, 0] rfl (t_X0_upTo_7 C E n9 _ _ _ h)
def b_X1_fewestOf_64 (v1 : Int) (Q : Int → TH → Prop) (K4 : Int → Int → TH → Prop) (v2 : Int) (v3 : Int) (T : TH) : Prop :=
  K4 v2 (v3 + 1) T
def b_X1_fewestOf_59 (v1 : Int) (Q : Int → TH → Prop) (K4 : Int → Int → TH → Prop) (v3 : Int) (v4 : Int) (T : TH) : Prop :=
  ∀ w1 : Int, w1 = (v4 + 1) → b_X1_fewestOf_64 v1 Q K4 w1 v3 T
def h_X1_fewestOf_4 (v1 : Int) (Q : Int → TH → Prop) : Nat → Int → Int → TH → Prop
  | 0, _, _, _ => False
  | n + 1, v2, v3, T => zR v3 ∧ zR v1 ∧ (v1 < v3 → (Q v2 T)) ∧ (¬ (v1 < v3) → (zR (zand v3 (zxor v1 (-1))) ∧ (¬ (zand v3 (zxor v1 (-1))) = 0 → (b_X1_fewestOf_64 v1 Q (h_X1_fewestOf_4 v1 Q n) v2 v3 T)) ∧ ((zand v3 (zxor v1 (-1))) = 0 → (0 ≤ v3 ∧ v3 < 128 ∧ zR (T 9 1 v3) ∧ zR (T 9 2 0) ∧ ((T 9 2 0) < (T 9 1 v3) → (b_X1_fewestOf_64 v1 Q (h_X1_fewestOf_4 v1 Q n) v2 v3 T)) ∧ (¬ ((T 9 2 0) < (T 9 1 v3)) → (0 ≤ (zxor v1 v3) ∧ (zxor v1 v3) < 128 ∧ ∀ w1 : Int, w1 = (T 9 0 (zxor v1 v3)) → zR w1 ∧ (w1 = (-1) → (b_X1_fewestOf_64 v1 Q (h_X1_fewestOf_4 v1 Q n) v2 v3 T)) ∧ (¬ (w1 = (-1)) → (zR v2 ∧ (v2 = (-1) → (b_X1_fewestOf_59 v1 Q (h_X1_fewestOf_4 v1 Q n) v3 w1 T)) ∧ (¬ (v2 = (-1)) → (zR (w1 + 1) ∧ zR v2 ∧ (v2 ≤ (w1 + 1) → (b_X1_fewestOf_64 v1 Q (h_X1_fewestOf_4 v1 Q n) v2 v3 T)) ∧ (¬ (v2 ≤ (w1 + 1)) → (b_X1_fewestOf_59 v1 Q (h_X1_fewestOf_4 v1 Q n) v3 w1 T))))))))))))
def wp_X1_fewestOf (v1 : Int) (T : TH) (Q : Int → TH → Prop) : Prop :=
  (∃ m9 : Nat, h_X1_fewestOf_4 v1 Q m9 (-1) 1 T)
set_option maxRecDepth 100000 in
theorem t_X1_fewestOf_64 {G : GT} {l0 : Launch} {X : CX} (C : CT G l0 X cX1_fewestOf 5 RX1 (rM 0 0)) {Q : Int → TH → Prop} (E : EN G X (some .int) (QI G Q)) {v1 : Int} {K4 : Int → Int → TH → Prop} (k4 : ∀ (v2 : Int) (v3 : Int) (T : TH), K4 v2 v3 T → V G X T 4 [(0, .ref (gad G 9)), (1, .int (zI v1)), (2, .int (zI v2)), (3, .int (zI v3))] []) {v2 : Int} {v3 : Int} {T : TH} (h : b_X1_fewestOf_64 v1 Q K4 v2 v3 T) : V G X T 64 [(0, .ref (gad G 9)), (1, .int (zI v1)), (2, .int (zI v2)), (3, .int (zI v3))] [] := by
  unfold b_X1_fewestOf_64 at h
  refine v_iinc C 3 dX1_fewestOf_64 rfl (by decide) ?_
  refine v_goto (tgt := 4) C dX1_fewestOf_67 (by decide) ?_
  exact v_sub [1, 2, 3, 0] rfl (k4 _ _ _ h)
set_option maxRecDepth 100000 in
theorem t_X1_fewestOf_59 {G : GT} {l0 : Launch} {X : CX} (C : CT G l0 X cX1_fewestOf 5 RX1 (rM 0 0)) {Q : Int → TH → Prop} (E : EN G X (some .int) (QI G Q)) {v1 : Int} {K4 : Int → Int → TH → Prop} (k4 : ∀ (v2 : Int) (v3 : Int) (T : TH), K4 v2 v3 T → V G X T 4 [(0, .ref (gad G 9)), (1, .int (zI v1)), (2, .int (zI v2)), (3, .int (zI v3))] []) {v3 : Int} {v4 : Int} {T : TH} (h : b_X1_fewestOf_59 v1 Q K4 v3 v4 T) : V G X T 59 [(0, .ref (gad G 9)), (1, .int (zI v1)), (3, .int (zI v3)), (4, .int (zI v4))] [] := by
  unfold b_X1_fewestOf_59 at h
  refine v_iload C 3 dX1_fewestOf_59 rfl ?_
  refine v_iconst C dX1_fewestOf_61 ?_
  refine v_iadd C dX1_fewestOf_62 ?_
  refine v_istore_n C dX1_fewestOf_63 rfl (by decide) ?_
  have h := h _ rfl
  exact v_sub [1, 2, 0, 3] rfl (t_X1_fewestOf_64 C E k4 h)
set_option maxRecDepth 100000 in
theorem t_X1_fewestOf_4 {G : GT} {l0 : Launch} {X : CX} (C : CT G l0 X cX1_fewestOf 5 RX1 (rM 0 0)) {Q : Int → TH → Prop} (E : EN G X (some .int) (QI G Q)) {v1 : Int} : ∀ (n : Nat) (v2 : Int) (v3 : Int) (T : TH), h_X1_fewestOf_4 v1 Q n v2 v3 T → V G X T 4 [(0, .ref (gad G 9)), (1, .int (zI v1)), (2, .int (zI v2)), (3, .int (zI v3))] [] := by
  intro n
  induction n with
  | zero =>
    intro v2 v3 T h
    exact h.elim
  | succ n ih =>
    intro v2 v3 T h
    rw [h_X1_fewestOf_4] at h
    refine v_iload_n C 3 dX1_fewestOf_4 rfl ?_
    refine v_iload_n C 1 dX1_fewestOf_5 rfl ?_
    obtain ⟨e1, e2, e3, e4⟩ := h
    refine v_icmp_gt (tgt := 70) C dX1_fewestOf_6 (by decide) e1 e2 (fun e5 => ?_) (fun e5 => ?_)
    · have h := e3 e5
      refine v_iload_n C 2 dX1_fewestOf_70 rfl ?_
      exact v_iret C E dX1_fewestOf_71 h
    · have h := e4 e5
      refine v_iload_n C 3 dX1_fewestOf_9 rfl ?_
      refine v_iload_n C 1 dX1_fewestOf_10 rfl ?_
      refine v_iconst C dX1_fewestOf_11 ?_
      refine v_ixor C dX1_fewestOf_12 ?_
      refine v_iand C dX1_fewestOf_13 ?_
      obtain ⟨e6, e7, e8⟩ := h
      refine v_if_ne (tgt := 64) C dX1_fewestOf_14 (by decide) e6 (fun e9 => ?_) (fun e9 => ?_)
      · have h := e7 e9
        exact v_sub [0, 1, 2, 3] rfl (t_X1_fewestOf_64 C E ih h)
      · have h := e8 e9
        refine v_aload_n C 0 dX1_fewestOf_17 rfl ?_
        refine v_getA C kX1 1 rfl rfl wd_258 rfl dX1_fewestOf_18 ?_
        refine v_iload_n C 3 dX1_fewestOf_21 rfl ?_
        obtain ⟨e10, e11, h⟩ := h
        refine v_iald C (ar_of (o := 9) rfl ar_1_1) dX1_fewestOf_22 e10 e11 ?_
        refine v_aload_n C 0 dX1_fewestOf_23 rfl ?_
        refine v_getI C kX1 2 rfl rfl wd_259 rfl dX1_fewestOf_24 ?_
        obtain ⟨e12, e13, e14, e15⟩ := h
        refine v_icmp_gt (tgt := 64) C dX1_fewestOf_27 (by decide) e12 e13 (fun e16 => ?_) (fun e16 => ?_)
        · have h := e14 e16
          exact v_sub [0, 1, 2, 3] rfl (t_X1_fewestOf_64 C E ih h)
        · have h := e15 e16
          refine v_aload_n C 0 dX1_fewestOf_30 rfl ?_
          refine v_getA C kX1 0 rfl rfl wd_256 rfl dX1_fewestOf_31 ?_
          refine v_iload_n C 1 dX1_fewestOf_34 rfl ?_
          refine v_iload_n C 3 dX1_fewestOf_35 rfl ?_
          refine v_ixor C dX1_fewestOf_36 ?_
          obtain ⟨e17, e18, h⟩ := h
          refine v_iald C (ar_of (o := 9) rfl ar_1_0) dX1_fewestOf_37 e17 e18 ?_
          refine v_istore C dX1_fewestOf_38 (by decide) ?_
          have h := h _ rfl
          refine v_iload C 0 dX1_fewestOf_40 rfl ?_
          refine v_iconst C dX1_fewestOf_42 ?_
          obtain ⟨e19, e20, e21⟩ := h
          refine v_icmp_eq (tgt := 64) C dX1_fewestOf_43 (by decide) e19 ⟨by decide, by decide⟩ (fun e22 => ?_) (fun e22 => ?_)
          · have h := e20 e22
            exact v_sub [1, 2, 3, 4] rfl (t_X1_fewestOf_64 C E ih h)
          · have h := e21 e22
            refine v_iload_n C 3 dX1_fewestOf_46 rfl ?_
            refine v_iconst C dX1_fewestOf_47 ?_
            obtain ⟨e23, e24, e25⟩ := h
            refine v_icmp_eq (tgt := 59) C dX1_fewestOf_48 (by decide) e23 ⟨by decide, by decide⟩ (fun e26 => ?_) (fun e26 => ?_)
            · have h := e24 e26
              exact v_sub [1, 2, 4, 0] rfl (t_X1_fewestOf_59 C E ih h)
            · have h := e25 e26
              refine v_iload C 0 dX1_fewestOf_51 rfl ?_
              refine v_iconst C dX1_fewestOf_53 ?_
              refine v_iadd C dX1_fewestOf_54 ?_
              refine v_iload_n C 3 dX1_fewestOf_55 rfl ?_
              obtain ⟨e27, e28, e29, e30⟩ := h
              refine v_icmp_ge (tgt := 64) C dX1_fewestOf_56 (by decide) e27 e28 (fun e31 => ?_) (fun e31 => ?_)
              · have h := e29 e31
                exact v_sub [1, 2, 3, 4] rfl (t_X1_fewestOf_64 C E ih h)
              · have h := e30 e31
                exact v_sub [1, 2, 4, 0] rfl (t_X1_fewestOf_59 C E ih h)
set_option maxRecDepth 100000 in
theorem s_X1_fewestOf (G : GT) (l0 : Launch) {v1 : Int} {T : TH} {Q : Int → TH → Prop} (h : wp_X1_fewestOf v1 T Q) : MT G l0 yX1_fewestOf cX1_fewestOf 5 (some .int) 0 0 [.ref (gad G 9), .int (zI v1)] T (QI G Q) := by
  refine mt_of G l0 (by decide) (Nat.le_of_ble_eq_true rfl) (fun X C E => ?_)
  show V G X T 0 [(0, .ref (gad G 9)), (1, .int (zI v1))] []
  unfold wp_X1_fewestOf at h
  refine v_iconst C dX1_fewestOf_0 ?_
  refine v_istore_n C dX1_fewestOf_1 rfl (by decide) ?_
  refine v_iconst C dX1_fewestOf_2 ?_
  refine v_istore_n C dX1_fewestOf_3 rfl (by decide) ?_
  obtain ⟨n9, h⟩ := h
  exact v_sub [2, 3, 1, 0] rfl (t_X1_fewestOf_4 C E n9 _ _ _ h)
def wp_X2_load (o0 : Nat) (o1 : Nat) (v2 : Int) (T : TH) (Q : Int → TH → Prop) : Prop :=
  0 ≤ v2 ∧ v2 < 7 ∧ ∀ w1 : Int, w1 = (T o1 11 v2) → wp_X2_gramsOf o0 o1 (zand w1 (zxor (T o1 6 0) (-1))) T (fun r3 T2 => wp_X2_gramsOf o0 o1 (zand w1 (T2 o1 6 0)) T2 (fun r5 T4 => Q (r3 - r5) T4))
set_option maxRecDepth 100000 in
theorem s_X2_load (G : GT) (l0 : Launch) {o0 : Nat} {o1 : Nat} {v2 : Int} {T : TH} {Q : Int → TH → Prop} (ho0 : clsO o0 = 2) (ho1 : clsO o1 = 3) (h : wp_X2_load o0 o1 v2 T Q) : MT G l0 yX2_load cX2_load 4 (some .int) 3 66 [.ref (gad G o0), .ref (gad G o1), .int (zI v2)] T (QI G Q) := by
  refine mt_of G l0 (by decide) (Nat.le_of_ble_eq_true rfl) (fun X C E => ?_)
  show V G X T 0 [(0, .ref (gad G o0)), (1, .ref (gad G o1)), (2, .int (zI v2))] []
  unfold wp_X2_load at h
  refine v_aload_n C 1 dX2_load_0 rfl ?_
  refine v_getA C kX3 11 ho1 rfl wd_164 rfl dX2_load_1 ?_
  refine v_iload_n C 2 dX2_load_4 rfl ?_
  obtain ⟨e1, e2, h⟩ := h
  refine v_iald C (ar_of ho1 ar_3_11) dX2_load_5 e1 e2 ?_
  refine v_istore_n C dX2_load_6 rfl (by decide) ?_
  have h := h _ rfl
  refine v_aload_n C 1 dX2_load_7 rfl ?_
  refine v_aload_n C 2 dX2_load_8 rfl ?_
  refine v_iload_n C 0 dX2_load_9 rfl ?_
  refine v_aload_n C 2 dX2_load_10 rfl ?_
  refine v_getI C kX3 6 ho1 rfl wd_145 rfl dX2_load_11 ?_
  refine v_iconst C dX2_load_14 ?_
  refine v_ixor C dX2_load_15 ?_
  refine v_iand C dX2_load_16 ?_
  refine v_cVI C kX2 ho0 (s_X2_gramsOf G l0 ho0 ho1 h) mv_X2_gramsOf wd_532 ⟨by decide, by decide⟩ rfl rfl (Nat.le_of_ble_eq_true rfl) dX2_load_17 (fun r3 T2 h => ?_)
  refine v_aload_n C 1 dX2_load_20 rfl ?_
  refine v_aload_n C 2 dX2_load_21 rfl ?_
  refine v_iload_n C 0 dX2_load_22 rfl ?_
  refine v_aload_n C 2 dX2_load_23 rfl ?_
  refine v_getI C kX3 6 ho1 rfl wd_145 rfl dX2_load_24 ?_
  refine v_iand C dX2_load_27 ?_
  refine v_cVI C kX2 ho0 (s_X2_gramsOf G l0 ho0 ho1 h) mv_X2_gramsOf wd_532 ⟨by decide, by decide⟩ rfl rfl (Nat.le_of_ble_eq_true rfl) dX2_load_28 (fun r5 T4 h => ?_)
  refine v_isub C dX2_load_31 ?_
  exact v_iret C E dX2_load_32 h
def b_X1_plan_116 (o1 : Nat) (o2 : Nat) (v3 : Int) (v4 : Int) (Q : TH → Prop) (K57 : Int → TH → Prop) (v5 : Int) (T : TH) : Prop :=
  K57 (v5 + 1) T
def h_X1_plan_57 (o1 : Nat) (o2 : Nat) (v3 : Int) (v4 : Int) (Q : TH → Prop) : Nat → Int → TH → Prop
  | 0, _, _ => False
  | n + 1, v5, T => zR v5 ∧ zR v3 ∧ (v3 < v5 → (Q T)) ∧ (¬ (v3 < v5) → (zR (zand v5 (zxor v3 (-1))) ∧ (¬ (zand v5 (zxor v3 (-1))) = 0 → (b_X1_plan_116 o1 o2 v3 v4 Q (h_X1_plan_57 o1 o2 v3 v4 Q n) v5 T)) ∧ ((zand v5 (zxor v3 (-1))) = 0 → (0 ≤ (zand v5 (v5 - 1)) ∧ (zand v5 (v5 - 1)) < 128 ∧ 0 ≤ (zand v5 (-v5)) ∧ (zand v5 (-v5)) < 128 ∧ 0 ≤ v5 ∧ v5 < 128 ∧ ∀ T1 : TH, T1 = up T 9 1 v5 ((T 9 1 (zand v5 (v5 - 1))) + (T 9 1 (zand v5 (-v5)))) → wp_X1_fewestOf v5 T1 (fun r3 T2 => 0 ≤ v5 ∧ v5 < 128 ∧ ∀ T4 : TH, T4 = up T2 9 0 v5 r3 → b_X1_plan_116 o1 o2 v3 v4 Q (h_X1_plan_57 o1 o2 v3 v4 Q n) v5 T4)))))
def h_X1_plan_9 (o1 : Nat) (o2 : Nat) (v3 : Int) (v4 : Int) (Q : TH → Prop) : Nat → Int → TH → Prop
  | 0, _, _ => False
  | n + 1, v5, T => zR v5 ∧ zR (T o1 0 0) ∧ ((T o1 0 0) ≤ v5 → (∀ T1 : TH, T1 = up T 9 1 0 0 → ∀ T2 : TH, T2 = up T1 9 0 0 0 → (∃ m9 : Nat, h_X1_plan_57 o1 o2 v3 v4 Q m9 1 T2))) ∧ (¬ ((T o1 0 0) ≤ v5) → (wp_X2_load o2 o1 v5 T (fun r4 T3 => 0 ≤ (zshl 1 v5) ∧ (zshl 1 v5) < 128 ∧ ∀ T5 : TH, T5 = up T3 9 1 (zshl 1 v5) r4 → (h_X1_plan_9 o1 o2 v3 v4 Q n) (v5 + 1) T5)))
def wp_X1_plan (o1 : Nat) (o2 : Nat) (v3 : Int) (v4 : Int) (T : TH) (Q : TH → Prop) : Prop :=
  ∀ T1 : TH, T1 = up T 9 2 0 v4 → (∃ m9 : Nat, h_X1_plan_9 o1 o2 v3 v4 Q m9 0 T1)
set_option maxRecDepth 100000 in
theorem t_X1_plan_116 {G : GT} {l0 : Launch} {X : CX} (C : CT G l0 X cX1_plan 6 RX1 (rM 4 89)) {Q : TH → Prop} (E : EN G X none (QV G Q)) {o1 : Nat} {o2 : Nat} {v3 : Int} {v4 : Int} (ho1 : clsO o1 = 3) (ho2 : clsO o2 = 2) {K57 : Int → TH → Prop} (k57 : ∀ (v5 : Int) (T : TH), K57 v5 T → V G X T 57 [(0, .ref (gad G 9)), (1, .ref (gad G o1)), (2, .ref (gad G o2)), (3, .int (zI v3)), (4, .int (zI v4)), (5, .int (zI v5))] []) {v5 : Int} {T : TH} (h : b_X1_plan_116 o1 o2 v3 v4 Q K57 v5 T) : V G X T 116 [(0, .ref (gad G 9)), (1, .ref (gad G o1)), (2, .ref (gad G o2)), (3, .int (zI v3)), (4, .int (zI v4)), (5, .int (zI v5))] [] := by
  unfold b_X1_plan_116 at h
  refine v_iinc C 5 dX1_plan_116 rfl (by decide) ?_
  refine v_goto (tgt := 57) C dX1_plan_119 (by decide) ?_
  exact v_sub [1, 2, 3, 4, 5, 0] rfl (k57 _ _ h)
set_option maxRecDepth 100000 in
theorem t_X1_plan_57 {G : GT} {l0 : Launch} {X : CX} (C : CT G l0 X cX1_plan 6 RX1 (rM 4 89)) {Q : TH → Prop} (E : EN G X none (QV G Q)) {o1 : Nat} {o2 : Nat} {v3 : Int} {v4 : Int} (ho1 : clsO o1 = 3) (ho2 : clsO o2 = 2) : ∀ (n : Nat) (v5 : Int) (T : TH), h_X1_plan_57 o1 o2 v3 v4 Q n v5 T → V G X T 57 [(0, .ref (gad G 9)), (1, .ref (gad G o1)), (2, .ref (gad G o2)), (3, .int (zI v3)), (4, .int (zI v4)), (5, .int (zI v5))] [] := by
  intro n
  induction n with
  | zero =>
    intro v5 T h
    exact h.elim
  | succ n ih =>
    intro v5 T h
    rw [h_X1_plan_57] at h
    refine v_iload C 5 dX1_plan_57 rfl ?_
    refine v_iload_n C 3 dX1_plan_59 rfl ?_
    obtain ⟨e1, e2, e3, e4⟩ := h
    refine v_icmp_gt (tgt := 122) C dX1_plan_60 (by decide) e1 e2 (fun e5 => ?_) (fun e5 => ?_)
    · have h := e3 e5
      exact v_vret C E dX1_plan_122 h
    · have h := e4 e5
      refine v_iload C 5 dX1_plan_63 rfl ?_
      refine v_iload_n C 3 dX1_plan_65 rfl ?_
      refine v_iconst C dX1_plan_66 ?_
      refine v_ixor C dX1_plan_67 ?_
      refine v_iand C dX1_plan_68 ?_
      obtain ⟨e6, e7, e8⟩ := h
      refine v_if_ne (tgt := 116) C dX1_plan_69 (by decide) e6 (fun e9 => ?_) (fun e9 => ?_)
      · have h := e7 e9
        exact v_sub [0, 1, 2, 3, 4, 5] rfl (t_X1_plan_116 C E ho1 ho2 ih h)
      · have h := e8 e9
        refine v_aload_n C 0 dX1_plan_72 rfl ?_
        refine v_getA C kX1 1 rfl rfl wd_258 rfl dX1_plan_73 ?_
        refine v_iload C 5 dX1_plan_76 rfl ?_
        refine v_aload_n C 0 dX1_plan_78 rfl ?_
        refine v_getA C kX1 1 rfl rfl wd_258 rfl dX1_plan_79 ?_
        refine v_iload C 5 dX1_plan_82 rfl ?_
        refine v_iload C 5 dX1_plan_84 rfl ?_
        refine v_iconst C dX1_plan_86 ?_
        refine v_isub C dX1_plan_87 ?_
        refine v_iand C dX1_plan_88 ?_
        obtain ⟨e10, e11, h⟩ := h
        refine v_iald C (ar_of (o := 9) rfl ar_1_1) dX1_plan_89 e10 e11 ?_
        refine v_aload_n C 0 dX1_plan_90 rfl ?_
        refine v_getA C kX1 1 rfl rfl wd_258 rfl dX1_plan_91 ?_
        refine v_iload C 5 dX1_plan_94 rfl ?_
        refine v_iload C 5 dX1_plan_96 rfl ?_
        refine v_ineg C dX1_plan_98 ?_
        refine v_iand C dX1_plan_99 ?_
        obtain ⟨e12, e13, h⟩ := h
        refine v_iald C (ar_of (o := 9) rfl ar_1_1) dX1_plan_100 e12 e13 ?_
        refine v_iadd C dX1_plan_101 ?_
        obtain ⟨e14, e15, h⟩ := h
        refine v_iast C (ar_of (o := 9) rfl ar_1_1) dX1_plan_102 e14 e15 ?_
        have h := h _ rfl
        refine v_aload_n C 0 dX1_plan_103 rfl ?_
        refine v_getA C kX1 0 rfl rfl wd_256 rfl dX1_plan_104 ?_
        refine v_iload C 5 dX1_plan_107 rfl ?_
        refine v_aload_n C 0 dX1_plan_109 rfl ?_
        refine v_iload C 5 dX1_plan_110 rfl ?_
        refine v_cVI C kX1 rfl (s_X1_fewestOf G l0 h) mv_X1_fewestOf wd_654 ⟨by decide, by decide⟩ rfl rfl (Nat.le_of_ble_eq_true rfl) dX1_plan_112 (fun r3 T2 h => ?_)
        obtain ⟨e16, e17, h⟩ := h
        refine v_iast C (ar_of (o := 9) rfl ar_1_0) dX1_plan_115 e16 e17 ?_
        have h := h _ rfl
        exact v_sub [0, 1, 2, 3, 4, 5] rfl (t_X1_plan_116 C E ho1 ho2 ih h)
set_option maxRecDepth 100000 in
theorem t_X1_plan_9 {G : GT} {l0 : Launch} {X : CX} (C : CT G l0 X cX1_plan 6 RX1 (rM 4 89)) {Q : TH → Prop} (E : EN G X none (QV G Q)) {o1 : Nat} {o2 : Nat} {v3 : Int} {v4 : Int} (ho1 : clsO o1 = 3) (ho2 : clsO o2 = 2) : ∀ (n : Nat) (v5 : Int) (T : TH), h_X1_plan_9 o1 o2 v3 v4 Q n v5 T → V G X T 9 [(0, .ref (gad G 9)), (1, .ref (gad G o1)), (2, .ref (gad G o2)), (3, .int (zI v3)), (4, .int (zI v4)), (5, .int (zI v5))] [] := by
  intro n
  induction n with
  | zero =>
    intro v5 T h
    exact h.elim
  | succ n ih =>
    intro v5 T h
    rw [h_X1_plan_9] at h
    refine v_iload C 5 dX1_plan_9 rfl ?_
    refine v_aload_n C 1 dX1_plan_11 rfl ?_
    refine v_getI C kX3 0 ho1 rfl wd_118 rfl dX1_plan_12 ?_
    obtain ⟨e1, e2, e3, e4⟩ := h
    refine v_icmp_ge (tgt := 40) C dX1_plan_15 (by decide) e1 e2 (fun e5 => ?_) (fun e5 => ?_)
    · have h := e3 e5
      refine v_aload_n C 0 dX1_plan_40 rfl ?_
      refine v_getA C kX1 1 rfl rfl wd_258 rfl dX1_plan_41 ?_
      refine v_iconst C dX1_plan_44 ?_
      refine v_iconst C dX1_plan_45 ?_
      refine v_iast C (ar_of (o := 9) rfl ar_1_1) dX1_plan_46 (by decide) (by decide) ?_
      have h := h _ rfl
      refine v_aload_n C 0 dX1_plan_47 rfl ?_
      refine v_getA C kX1 0 rfl rfl wd_256 rfl dX1_plan_48 ?_
      refine v_iconst C dX1_plan_51 ?_
      refine v_iconst C dX1_plan_52 ?_
      refine v_iast C (ar_of (o := 9) rfl ar_1_0) dX1_plan_53 (by decide) (by decide) ?_
      have h := h _ rfl
      refine v_iconst C dX1_plan_54 ?_
      refine v_istore C dX1_plan_55 (by decide) ?_
      obtain ⟨n9, h⟩ := h
      exact v_sub [1, 2, 3, 4, 5, 0] rfl (t_X1_plan_57 C E ho1 ho2 n9 _ _ h)
    · have h := e4 e5
      refine v_aload_n C 0 dX1_plan_18 rfl ?_
      refine v_getA C kX1 1 rfl rfl wd_258 rfl dX1_plan_19 ?_
      refine v_iconst C dX1_plan_22 ?_
      refine v_iload C 5 dX1_plan_23 rfl ?_
      refine v_ishl C dX1_plan_25 ?_
      refine v_aload_n C 2 dX1_plan_26 rfl ?_
      refine v_aload_n C 1 dX1_plan_27 rfl ?_
      refine v_iload C 5 dX1_plan_28 rfl ?_
      refine v_cVI C kX2 ho2 (s_X2_load G l0 ho2 ho1 h) mv_X2_load wd_653 ⟨by decide, by decide⟩ rfl rfl (Nat.le_of_ble_eq_true rfl) dX1_plan_30 (fun r4 T3 h => ?_)
      obtain ⟨e6, e7, h⟩ := h
      refine v_iast C (ar_of (o := 9) rfl ar_1_1) dX1_plan_33 e6 e7 ?_
      have h := h _ rfl
      refine v_iinc C 5 dX1_plan_34 rfl (by decide) ?_
      refine v_goto (tgt := 9) C dX1_plan_37 (by decide) ?_
      exact v_sub [1, 2, 3, 4, 5, 0] rfl (ih _ _ h)
set_option maxRecDepth 100000 in
theorem s_X1_plan (G : GT) (l0 : Launch) {o1 : Nat} {o2 : Nat} {v3 : Int} {v4 : Int} {T : TH} {Q : TH → Prop} (ho1 : clsO o1 = 3) (ho2 : clsO o2 = 2) (h : wp_X1_plan o1 o2 v3 v4 T Q) : MT G l0 yX1_plan cX1_plan 6 none 4 89 [.ref (gad G 9), .ref (gad G o1), .ref (gad G o2), .int (zI v3), .int (zI v4)] T (QV G Q) := by
  refine mt_of G l0 (by decide) (Nat.le_of_ble_eq_true rfl) (fun X C E => ?_)
  show V G X T 0 [(0, .ref (gad G 9)), (1, .ref (gad G o1)), (2, .ref (gad G o2)), (3, .int (zI v3)), (4, .int (zI v4))] []
  unfold wp_X1_plan at h
  refine v_aload_n C 0 dX1_plan_0 rfl ?_
  refine v_iload C 4 dX1_plan_1 rfl ?_
  refine v_putI C kX1 2 rfl rfl wd_259 rfl rfl (tyX1_ok 2 (by decide)) dX1_plan_3 ?_
  have h := h _ rfl
  refine v_iconst C dX1_plan_6 ?_
  refine v_istore C dX1_plan_7 (by decide) ?_
  obtain ⟨n9, h⟩ := h
  exact v_sub [1, 2, 3, 4, 5, 0] rfl (t_X1_plan_9 C E ho1 ho2 n9 _ _ h)
def b_X1_firstGroup_59 (v1 : Int) (Q : Int → TH → Prop) (K2 : Int → TH → Prop) (v2 : Int) (T : TH) : Prop :=
  K2 (v2 + 1) T
def b_X1_firstGroup_33 (v1 : Int) (Q : Int → TH → Prop) (K2 : Int → TH → Prop) (v2 : Int) (y0 : Bool) (T : TH) : Prop :=
  (y0 = false → (b_X1_firstGroup_59 v1 Q K2 v2 T)) ∧ (y0 = true → (0 ≤ (zxor v1 v2) ∧ (zxor v1 v2) < 128 ∧ 0 ≤ v1 ∧ v1 < 128 ∧ zR (T 9 0 (zxor v1 v2)) ∧ zR ((T 9 0 v1) - 1) ∧ (¬ (T 9 0 (zxor v1 v2)) = ((T 9 0 v1) - 1) → (b_X1_firstGroup_59 v1 Q K2 v2 T)) ∧ ((T 9 0 (zxor v1 v2)) = ((T 9 0 v1) - 1) → (Q v2 T))))
def b_X1_firstGroup_32 (v1 : Int) (Q : Int → TH → Prop) (K2 : Int → TH → Prop) (v2 : Int) (T : TH) : Prop :=
  b_X1_firstGroup_33 v1 Q K2 v2 false T
def h_X1_firstGroup_2 (v1 : Int) (Q : Int → TH → Prop) : Nat → Int → TH → Prop
  | 0, _, _ => False
  | n + 1, v2, T => zR v2 ∧ zR v1 ∧ (v1 < v2 → (Q (-1) T)) ∧ (¬ (v1 < v2) → (zR (zand v2 (zxor v1 (-1))) ∧ (¬ (zand v2 (zxor v1 (-1))) = 0 → (b_X1_firstGroup_32 v1 Q (h_X1_firstGroup_2 v1 Q n) v2 T)) ∧ ((zand v2 (zxor v1 (-1))) = 0 → (0 ≤ v2 ∧ v2 < 128 ∧ zR (T 9 1 v2) ∧ zR (T 9 2 0) ∧ ((T 9 2 0) < (T 9 1 v2) → (b_X1_firstGroup_32 v1 Q (h_X1_firstGroup_2 v1 Q n) v2 T)) ∧ (¬ ((T 9 2 0) < (T 9 1 v2)) → (b_X1_firstGroup_33 v1 Q (h_X1_firstGroup_2 v1 Q n) v2 true T))))))
def wp_X1_firstGroup (v1 : Int) (T : TH) (Q : Int → TH → Prop) : Prop :=
  (∃ m9 : Nat, h_X1_firstGroup_2 v1 Q m9 1 T)
set_option maxRecDepth 100000 in
theorem t_X1_firstGroup_59 {G : GT} {l0 : Launch} {X : CX} (C : CT G l0 X cX1_firstGroup 4 RX1 (rM 0 0)) {Q : Int → TH → Prop} (E : EN G X (some .int) (QI G Q)) {v1 : Int} {K2 : Int → TH → Prop} (k2 : ∀ (v2 : Int) (T : TH), K2 v2 T → V G X T 2 [(0, .ref (gad G 9)), (1, .int (zI v1)), (2, .int (zI v2))] []) {v2 : Int} {T : TH} (h : b_X1_firstGroup_59 v1 Q K2 v2 T) : V G X T 59 [(0, .ref (gad G 9)), (1, .int (zI v1)), (2, .int (zI v2))] [] := by
  unfold b_X1_firstGroup_59 at h
  refine v_iinc C 2 dX1_firstGroup_59 rfl (by decide) ?_
  refine v_goto (tgt := 2) C dX1_firstGroup_62 (by decide) ?_
  exact v_sub [1, 2, 0] rfl (k2 _ _ h)
set_option maxRecDepth 100000 in
theorem t_X1_firstGroup_33 {G : GT} {l0 : Launch} {X : CX} (C : CT G l0 X cX1_firstGroup 4 RX1 (rM 0 0)) {Q : Int → TH → Prop} (E : EN G X (some .int) (QI G Q)) {v1 : Int} {K2 : Int → TH → Prop} (k2 : ∀ (v2 : Int) (T : TH), K2 v2 T → V G X T 2 [(0, .ref (gad G 9)), (1, .int (zI v1)), (2, .int (zI v2))] []) {v2 : Int} {y0 : Bool} {T : TH} (h : b_X1_firstGroup_33 v1 Q K2 v2 y0 T) : V G X T 33 [(0, .ref (gad G 9)), (1, .int (zI v1)), (2, .int (zI v2))] [.int (zI (zi y0))] := by
  unfold b_X1_firstGroup_33 at h
  refine v_istore_n C dX1_firstGroup_33 rfl (by decide) ?_
  refine v_iload_n C 0 dX1_firstGroup_34 rfl ?_
  obtain ⟨e1, e2⟩ := h
  refine v_ifz_eq (tgt := 59) C dX1_firstGroup_35 (by decide) (fun e3 => ?_) (fun e3 => ?_)
  · have h := e1 e3
    exact v_sub [1, 2, 3] rfl (t_X1_firstGroup_59 C E k2 h)
  · have h := e2 e3
    refine v_aload_n C 1 dX1_firstGroup_38 rfl ?_
    refine v_getA C kX1 0 rfl rfl wd_256 rfl dX1_firstGroup_39 ?_
    refine v_iload_n C 2 dX1_firstGroup_42 rfl ?_
    refine v_iload_n C 3 dX1_firstGroup_43 rfl ?_
    refine v_ixor C dX1_firstGroup_44 ?_
    obtain ⟨e4, e5, h⟩ := h
    refine v_iald C (ar_of (o := 9) rfl ar_1_0) dX1_firstGroup_45 e4 e5 ?_
    refine v_aload_n C 1 dX1_firstGroup_46 rfl ?_
    refine v_getA C kX1 0 rfl rfl wd_256 rfl dX1_firstGroup_47 ?_
    refine v_iload_n C 2 dX1_firstGroup_50 rfl ?_
    obtain ⟨e6, e7, h⟩ := h
    refine v_iald C (ar_of (o := 9) rfl ar_1_0) dX1_firstGroup_51 e6 e7 ?_
    refine v_iconst C dX1_firstGroup_52 ?_
    refine v_isub C dX1_firstGroup_53 ?_
    obtain ⟨e8, e9, e10, e11⟩ := h
    refine v_icmp_ne (tgt := 59) C dX1_firstGroup_54 (by decide) e8 e9 (fun e12 => ?_) (fun e12 => ?_)
    · have h := e10 e12
      exact v_sub [1, 2, 3] rfl (t_X1_firstGroup_59 C E k2 h)
    · have h := e11 e12
      refine v_iload_n C 3 dX1_firstGroup_57 rfl ?_
      exact v_iret C E dX1_firstGroup_58 h
set_option maxRecDepth 100000 in
theorem t_X1_firstGroup_32 {G : GT} {l0 : Launch} {X : CX} (C : CT G l0 X cX1_firstGroup 4 RX1 (rM 0 0)) {Q : Int → TH → Prop} (E : EN G X (some .int) (QI G Q)) {v1 : Int} {K2 : Int → TH → Prop} (k2 : ∀ (v2 : Int) (T : TH), K2 v2 T → V G X T 2 [(0, .ref (gad G 9)), (1, .int (zI v1)), (2, .int (zI v2))] []) {v2 : Int} {T : TH} (h : b_X1_firstGroup_32 v1 Q K2 v2 T) : V G X T 32 [(0, .ref (gad G 9)), (1, .int (zI v1)), (2, .int (zI v2))] [] := by
  unfold b_X1_firstGroup_32 at h
  refine v_iconst C dX1_firstGroup_32 ?_
  exact v_sub [0, 1, 2] rfl (t_X1_firstGroup_33 C E k2 h)
set_option maxRecDepth 100000 in
theorem t_X1_firstGroup_2 {G : GT} {l0 : Launch} {X : CX} (C : CT G l0 X cX1_firstGroup 4 RX1 (rM 0 0)) {Q : Int → TH → Prop} (E : EN G X (some .int) (QI G Q)) {v1 : Int} : ∀ (n : Nat) (v2 : Int) (T : TH), h_X1_firstGroup_2 v1 Q n v2 T → V G X T 2 [(0, .ref (gad G 9)), (1, .int (zI v1)), (2, .int (zI v2))] [] := by
  intro n
  induction n with
  | zero =>
    intro v2 T h
    exact h.elim
  | succ n ih =>
    intro v2 T h
    rw [h_X1_firstGroup_2] at h
    refine v_iload_n C 2 dX1_firstGroup_2 rfl ?_
    refine v_iload_n C 1 dX1_firstGroup_3 rfl ?_
    obtain ⟨e1, e2, e3, e4⟩ := h
    refine v_icmp_gt (tgt := 65) C dX1_firstGroup_4 (by decide) e1 e2 (fun e5 => ?_) (fun e5 => ?_)
    · have h := e3 e5
      refine v_iconst C dX1_firstGroup_65 ?_
      exact v_iret C E dX1_firstGroup_66 h
    · have h := e4 e5
      refine v_iload_n C 2 dX1_firstGroup_7 rfl ?_
      refine v_iload_n C 1 dX1_firstGroup_8 rfl ?_
      refine v_iconst C dX1_firstGroup_9 ?_
      refine v_ixor C dX1_firstGroup_10 ?_
      refine v_iand C dX1_firstGroup_11 ?_
      obtain ⟨e6, e7, e8⟩ := h
      refine v_if_ne (tgt := 32) C dX1_firstGroup_12 (by decide) e6 (fun e9 => ?_) (fun e9 => ?_)
      · have h := e7 e9
        exact v_sub [0, 1, 2] rfl (t_X1_firstGroup_32 C E ih h)
      · have h := e8 e9
        refine v_aload_n C 0 dX1_firstGroup_15 rfl ?_
        refine v_getA C kX1 1 rfl rfl wd_258 rfl dX1_firstGroup_16 ?_
        refine v_iload_n C 2 dX1_firstGroup_19 rfl ?_
        obtain ⟨e10, e11, h⟩ := h
        refine v_iald C (ar_of (o := 9) rfl ar_1_1) dX1_firstGroup_20 e10 e11 ?_
        refine v_aload_n C 0 dX1_firstGroup_21 rfl ?_
        refine v_getI C kX1 2 rfl rfl wd_259 rfl dX1_firstGroup_22 ?_
        obtain ⟨e12, e13, e14, e15⟩ := h
        refine v_icmp_gt (tgt := 32) C dX1_firstGroup_25 (by decide) e12 e13 (fun e16 => ?_) (fun e16 => ?_)
        · have h := e14 e16
          exact v_sub [0, 1, 2] rfl (t_X1_firstGroup_32 C E ih h)
        · have h := e15 e16
          refine v_iconst C dX1_firstGroup_28 ?_
          refine v_goto (tgt := 33) C dX1_firstGroup_29 (by decide) ?_
          exact v_sub [0, 1, 2] rfl (t_X1_firstGroup_33 C E ih h)
set_option maxRecDepth 100000 in
theorem s_X1_firstGroup (G : GT) (l0 : Launch) {v1 : Int} {T : TH} {Q : Int → TH → Prop} (h : wp_X1_firstGroup v1 T Q) : MT G l0 yX1_firstGroup cX1_firstGroup 4 (some .int) 0 0 [.ref (gad G 9), .int (zI v1)] T (QI G Q) := by
  refine mt_of G l0 (by decide) (Nat.le_of_ble_eq_true rfl) (fun X C E => ?_)
  show V G X T 0 [(0, .ref (gad G 9)), (1, .int (zI v1))] []
  unfold wp_X1_firstGroup at h
  refine v_iconst C dX1_firstGroup_0 ?_
  refine v_istore_n C dX1_firstGroup_1 rfl (by decide) ?_
  obtain ⟨n9, h⟩ := h
  exact v_sub [1, 2, 0] rfl (t_X1_firstGroup_2 C E n9 _ _ h)
def h_X1_group_5 (v1 : Int) (v2 : Int) (Q : Int → TH → Prop) : Nat → Int → Int → TH → Prop
  | 0, _, _, _ => False
  | n + 1, v3, v4, T => zR v4 ∧ zR v2 ∧ (v2 < v4 → (Q (-1) T)) ∧ (¬ (v2 < v4) → (0 ≤ v1 ∧ v1 < 128 ∧ zR v4 ∧ zR (T 9 0 v1) ∧ ((T 9 0 v1) ≤ v4 → (Q (-1) T)) ∧ (¬ ((T 9 0 v1) ≤ v4) → (wp_X1_firstGroup v3 T (fun r2 T1 => zR v4 ∧ zR v2 ∧ (¬ v4 = v2 → (∀ w3 : Int, w3 = (zand v3 (zxor r2 (-1))) → (h_X1_group_5 v1 v2 Q n) w3 (v4 + 1) T1)) ∧ (v4 = v2 → (Q r2 T1)))))))
def wp_X1_group (v1 : Int) (v2 : Int) (T : TH) (Q : Int → TH → Prop) : Prop :=
  (∃ m9 : Nat, h_X1_group_5 v1 v2 Q m9 v1 0 T)
set_option maxRecDepth 100000 in
theorem t_X1_group_5 {G : GT} {l0 : Launch} {X : CX} (C : CT G l0 X cX1_group 6 RX1 (rM 1 23)) {Q : Int → TH → Prop} (E : EN G X (some .int) (QI G Q)) {v1 : Int} {v2 : Int} : ∀ (n : Nat) (v3 : Int) (v4 : Int) (T : TH), h_X1_group_5 v1 v2 Q n v3 v4 T → V G X T 5 [(0, .ref (gad G 9)), (1, .int (zI v1)), (2, .int (zI v2)), (3, .int (zI v3)), (4, .int (zI v4))] [] := by
  intro n
  induction n with
  | zero =>
    intro v3 v4 T h
    exact h.elim
  | succ n ih =>
    intro v3 v4 T h
    rw [h_X1_group_5] at h
    refine v_iload C 4 dX1_group_5 rfl ?_
    refine v_iload_n C 2 dX1_group_7 rfl ?_
    obtain ⟨e1, e2, e3, e4⟩ := h
    refine v_icmp_gt (tgt := 51) C dX1_group_8 (by decide) e1 e2 (fun e5 => ?_) (fun e5 => ?_)
    · have h := e3 e5
      refine v_iconst C dX1_group_51 ?_
      exact v_iret C E dX1_group_52 h
    · have h := e4 e5
      refine v_iload C 4 dX1_group_11 rfl ?_
      refine v_aload_n C 0 dX1_group_13 rfl ?_
      refine v_getA C kX1 0 rfl rfl wd_256 rfl dX1_group_14 ?_
      refine v_iload_n C 1 dX1_group_17 rfl ?_
      obtain ⟨e6, e7, h⟩ := h
      refine v_iald C (ar_of (o := 9) rfl ar_1_0) dX1_group_18 e6 e7 ?_
      obtain ⟨e8, e9, e10, e11⟩ := h
      refine v_icmp_ge (tgt := 51) C dX1_group_19 (by decide) e8 e9 (fun e12 => ?_) (fun e12 => ?_)
      · have h := e10 e12
        refine v_iconst C dX1_group_51 ?_
        exact v_iret C E dX1_group_52 h
      · have h := e11 e12
        refine v_aload_n C 0 dX1_group_22 rfl ?_
        refine v_iload_n C 3 dX1_group_23 rfl ?_
        refine v_cVI C kX1 rfl (s_X1_firstGroup G l0 h) mv_X1_firstGroup wd_662 ⟨by decide, by decide⟩ rfl rfl (Nat.le_of_ble_eq_true rfl) dX1_group_24 (fun r2 T1 h => ?_)
        refine v_istore C dX1_group_27 (by decide) ?_
        refine v_iload C 5 dX1_group_29 rfl ?_
        refine v_iload_n C 3 dX1_group_31 rfl ?_
        obtain ⟨e13, e14, e15, e16⟩ := h
        refine v_icmp_ne (tgt := 38) C dX1_group_32 (by decide) e13 e14 (fun e17 => ?_) (fun e17 => ?_)
        · have h := e15 e17
          refine v_iload_n C 4 dX1_group_38 rfl ?_
          refine v_iload C 0 dX1_group_39 rfl ?_
          refine v_iconst C dX1_group_41 ?_
          refine v_ixor C dX1_group_42 ?_
          refine v_iand C dX1_group_43 ?_
          refine v_istore_n C dX1_group_44 rfl (by decide) ?_
          have h := h _ rfl
          refine v_iinc C 5 dX1_group_45 rfl (by decide) ?_
          refine v_goto (tgt := 5) C dX1_group_48 (by decide) ?_
          exact v_sub [3, 4, 5, 1, 0] rfl (ih _ _ _ h)
        · have h := e16 e17
          refine v_iload C 0 dX1_group_35 rfl ?_
          exact v_iret C E dX1_group_37 h
set_option maxRecDepth 100000 in
theorem s_X1_group (G : GT) (l0 : Launch) {v1 : Int} {v2 : Int} {T : TH} {Q : Int → TH → Prop} (h : wp_X1_group v1 v2 T Q) : MT G l0 yX1_group cX1_group 6 (some .int) 1 23 [.ref (gad G 9), .int (zI v1), .int (zI v2)] T (QI G Q) := by
  refine mt_of G l0 (by decide) (Nat.le_of_ble_eq_true rfl) (fun X C E => ?_)
  show V G X T 0 [(0, .ref (gad G 9)), (1, .int (zI v1)), (2, .int (zI v2))] []
  unfold wp_X1_group at h
  refine v_iload_n C 1 dX1_group_0 rfl ?_
  refine v_istore_n C dX1_group_1 rfl (by decide) ?_
  refine v_iconst C dX1_group_2 ?_
  refine v_istore C dX1_group_3 (by decide) ?_
  obtain ⟨n9, h⟩ := h
  exact v_sub [2, 3, 4, 1, 0] rfl (t_X1_group_5 C E n9 _ _ _ h)
def h_X2_begin_23 (o0 : Nat) (o1 : Nat) (Q : TH → Prop) : Nat → Int → TH → Prop
  | 0, _, _ => False
  | n + 1, v2, T => zR v2 ∧ zR (T o1 1 0) ∧ ((T o1 1 0) ≤ v2 → (Q T)) ∧ (¬ ((T o1 1 0) ≤ v2) → (0 ≤ v2 ∧ v2 < 8 ∧ 0 ≤ v2 ∧ v2 < 8 ∧ ∀ T1 : TH, T1 = up T o0 2 v2 (T o1 10 v2) → (h_X2_begin_23 o0 o1 Q n) (v2 + 1) T1))
def wp_X2_begin (o0 : Nat) (o1 : Nat) (T : TH) (Q : TH → Prop) : Prop :=
  ∀ T1 : TH, T1 = up T o0 0 0 0 → wp_J7_fill_53178 o0 2 8 0 T1 (fun T2 => wp_J7_fill_53178 o0 4 56 0 T2 (fun T3 => (∃ m9 : Nat, h_X2_begin_23 o0 o1 Q m9 0 T3)))
set_option maxRecDepth 100000 in
theorem t_X2_begin_23 {G : GT} {l0 : Launch} {X : CX} (C : CT G l0 X cX2_begin 3 RX2 (rM 1 23)) {Q : TH → Prop} (E : EN G X none (QV G Q)) {o0 : Nat} {o1 : Nat} (ho0 : clsO o0 = 2) (ho1 : clsO o1 = 3) : ∀ (n : Nat) (v2 : Int) (T : TH), h_X2_begin_23 o0 o1 Q n v2 T → V G X T 23 [(0, .ref (gad G o0)), (1, .ref (gad G o1)), (2, .int (zI v2))] [] := by
  intro n
  induction n with
  | zero =>
    intro v2 T h
    exact h.elim
  | succ n ih =>
    intro v2 T h
    rw [h_X2_begin_23] at h
    refine v_iload_n C 2 dX2_begin_23 rfl ?_
    refine v_aload_n C 1 dX2_begin_24 rfl ?_
    refine v_getI C kX3 1 ho1 rfl wd_124 rfl dX2_begin_25 ?_
    obtain ⟨e1, e2, e3, e4⟩ := h
    refine v_icmp_ge (tgt := 49) C dX2_begin_28 (by decide) e1 e2 (fun e5 => ?_) (fun e5 => ?_)
    · have h := e3 e5
      exact v_vret C E dX2_begin_49 h
    · have h := e4 e5
      refine v_aload_n C 0 dX2_begin_31 rfl ?_
      refine v_getA C kX2 2 ho0 rfl wd_217 rfl dX2_begin_32 ?_
      refine v_iload_n C 2 dX2_begin_35 rfl ?_
      refine v_aload_n C 1 dX2_begin_36 rfl ?_
      refine v_getA C kX3 10 ho1 rfl wd_159 rfl dX2_begin_37 ?_
      refine v_iload_n C 2 dX2_begin_40 rfl ?_
      obtain ⟨e6, e7, h⟩ := h
      refine v_iald C (ar_of ho1 ar_3_10) dX2_begin_41 e6 e7 ?_
      obtain ⟨e8, e9, h⟩ := h
      refine v_iast C (ar_of ho0 ar_2_2) dX2_begin_42 e8 e9 ?_
      have h := h _ rfl
      refine v_iinc C 2 dX2_begin_43 rfl (by decide) ?_
      refine v_goto (tgt := 23) C dX2_begin_46 (by decide) ?_
      exact v_sub [1, 2, 0] rfl (ih _ _ h)
set_option maxRecDepth 100000 in
theorem s_X2_begin (G : GT) (l0 : Launch) {o0 : Nat} {o1 : Nat} {T : TH} {Q : TH → Prop} (ho0 : clsO o0 = 2) (ho1 : clsO o1 = 3) (h : wp_X2_begin o0 o1 T Q) : MT G l0 yX2_begin cX2_begin 3 none 1 23 [.ref (gad G o0), .ref (gad G o1)] T (QV G Q) := by
  refine mt_of G l0 (by decide) (Nat.le_of_ble_eq_true rfl) (fun X C E => ?_)
  show V G X T 0 [(0, .ref (gad G o0)), (1, .ref (gad G o1))] []
  unfold wp_X2_begin at h
  refine v_aload_n C 0 dX2_begin_0 rfl ?_
  refine v_iconst C dX2_begin_1 ?_
  refine v_putI C kX2 0 ho0 rfl wd_213 rfl rfl (tyX2_ok 0 (by decide)) dX2_begin_2 ?_
  have h := h _ rfl
  refine v_aload_n C 0 dX2_begin_5 rfl ?_
  refine v_getA C kX2 2 ho0 rfl wd_217 rfl dX2_begin_6 ?_
  refine v_iconst C dX2_begin_9 ?_
  refine v_cSN C (s_J7_fill_53178 G l0 (ar_of ho0 ar_2_2) h) mv_J7_fill_53178 wd_462 ⟨by decide, by decide⟩ rfl rfl (Nat.le_of_ble_eq_true rfl) dX2_begin_10 (fun T2 h => ?_)
  refine v_aload_n C 0 dX2_begin_13 rfl ?_
  refine v_getA C kX2 4 ho0 rfl wd_220 rfl dX2_begin_14 ?_
  refine v_iconst C dX2_begin_17 ?_
  refine v_cSN C (s_J7_fill_53178 G l0 (ar_of ho0 ar_2_4) h) mv_J7_fill_53178 wd_462 ⟨by decide, by decide⟩ rfl rfl (Nat.le_of_ble_eq_true rfl) dX2_begin_18 (fun T3 h => ?_)
  refine v_iconst C dX2_begin_21 ?_
  refine v_istore_n C dX2_begin_22 rfl (by decide) ?_
  obtain ⟨n9, h⟩ := h
  exact v_sub [1, 2, 0] rfl (t_X2_begin_23 C E ho0 ho1 n9 _ _ h)
def wp_X2_copyFrom (o0 : Nat) (o1 : Nat) (T : TH) (Q : TH → Prop) : Prop :=
  ∀ T1 : TH, T1 = up T o0 0 0 (T o1 0 0) → ∀ T2 : TH, T2 = up T1 o0 1 0 (T1 o1 1 0) → ((0 : Int) ≤ 0 ∧ (0 : Int) ≤ 0 ∧ (0 : Int) ≤ 8 ∧ (0 : Int) + 8 ≤ 8 ∧ (0 : Int) + 8 ≤ 8) ∧ ∀ T3 : TH, T3 = cpy T2 o1 2 0 o0 2 0 8 → ((0 : Int) ≤ 0 ∧ (0 : Int) ≤ 0 ∧ (0 : Int) ≤ 56 ∧ (0 : Int) + 56 ≤ 56 ∧ (0 : Int) + 56 ≤ 56) ∧ ∀ T4 : TH, T4 = cpy T3 o1 4 0 o0 4 0 56 → Q T4
set_option maxRecDepth 100000 in
theorem s_X2_copyFrom (G : GT) (l0 : Launch) {o0 : Nat} {o1 : Nat} {T : TH} {Q : TH → Prop} (ho0 : clsO o0 = 2) (ho1 : clsO o1 = 2) (h : wp_X2_copyFrom o0 o1 T Q) : MT G l0 yX2_copyFrom cX2_copyFrom 2 none 1 30 [.ref (gad G o0), .ref (gad G o1)] T (QV G Q) := by
  refine mt_of G l0 (by decide) (Nat.le_of_ble_eq_true rfl) (fun X C E => ?_)
  show V G X T 0 [(0, .ref (gad G o0)), (1, .ref (gad G o1))] []
  unfold wp_X2_copyFrom at h
  refine v_aload_n C 0 dX2_copyFrom_0 rfl ?_
  refine v_aload_n C 1 dX2_copyFrom_1 rfl ?_
  refine v_getI C kX2 0 ho1 rfl wd_213 rfl dX2_copyFrom_2 ?_
  refine v_putI C kX2 0 ho0 rfl wd_213 rfl rfl (tyX2_ok 0 (by decide)) dX2_copyFrom_5 ?_
  have h := h _ rfl
  refine v_aload_n C 0 dX2_copyFrom_8 rfl ?_
  refine v_aload_n C 1 dX2_copyFrom_9 rfl ?_
  refine v_getI C kX2 1 ho1 rfl wd_215 rfl dX2_copyFrom_10 ?_
  refine v_putI C kX2 1 ho0 rfl wd_215 rfl rfl (tyX2_ok 1 (by decide)) dX2_copyFrom_13 ?_
  have h := h _ rfl
  refine v_aload_n C 1 dX2_copyFrom_16 rfl ?_
  refine v_getA C kX2 2 ho1 rfl wd_217 rfl dX2_copyFrom_17 ?_
  refine v_iconst C dX2_copyFrom_20 ?_
  refine v_aload_n C 0 dX2_copyFrom_21 rfl ?_
  refine v_getA C kX2 2 ho0 rfl wd_217 rfl dX2_copyFrom_22 ?_
  refine v_iconst C dX2_copyFrom_25 ?_
  refine v_bipush C dX2_copyFrom_26 (by decide) ?_
  obtain ⟨e1, h⟩ := h
  refine v_acopy C (ar_of ho1 ar_2_2) (ar_of ho0 ar_2_2) wd_616 wd_618 wd_617 wd_73 (by decide) (by decide +kernel) dX2_copyFrom_28 e1 ?_
  have h := h _ rfl
  refine v_aload_n C 1 dX2_copyFrom_31 rfl ?_
  refine v_getA C kX2 4 ho1 rfl wd_220 rfl dX2_copyFrom_32 ?_
  refine v_iconst C dX2_copyFrom_35 ?_
  refine v_aload_n C 0 dX2_copyFrom_36 rfl ?_
  refine v_getA C kX2 4 ho0 rfl wd_220 rfl dX2_copyFrom_37 ?_
  refine v_iconst C dX2_copyFrom_40 ?_
  refine v_bipush C dX2_copyFrom_41 (by decide) ?_
  obtain ⟨e2, h⟩ := h
  refine v_acopy C (ar_of ho1 ar_2_4) (ar_of ho0 ar_2_4) wd_616 wd_618 wd_617 wd_73 (by decide) (by decide +kernel) dX2_copyFrom_43 e2 ?_
  have h := h _ rfl
  exact v_vret C E dX2_copyFrom_46 h
def wp_X2_knows (o0 : Nat) (v1 : Int) (v2 : Int) (T : TH) (Q : Bool → TH → Prop) : Prop :=
  0 ≤ v2 ∧ v2 < 8 ∧ zR (zand (zshr (T o0 2 v2) v1) 1) ∧ ((zand (zshr (T o0 2 v2) v1) 1) = 0 → (Q false T)) ∧ (¬ ((zand (zshr (T o0 2 v2) v1) 1) = 0) → (Q true T))
set_option maxRecDepth 100000 in
theorem s_X2_knows (G : GT) (l0 : Launch) {o0 : Nat} {v1 : Int} {v2 : Int} {T : TH} {Q : Bool → TH → Prop} (ho0 : clsO o0 = 2) (h : wp_X2_knows o0 v1 v2 T Q) : MT G l0 yX2_knows cX2_knows 3 (some .boolean) 0 0 [.ref (gad G o0), .int (zI v1), .int (zI v2)] T (QZ G Q) := by
  refine mt_of G l0 (by decide) (Nat.le_of_ble_eq_true rfl) (fun X C E => ?_)
  show V G X T 0 [(0, .ref (gad G o0)), (1, .int (zI v1)), (2, .int (zI v2))] []
  unfold wp_X2_knows at h
  refine v_aload_n C 0 dX2_knows_0 rfl ?_
  refine v_getA C kX2 2 ho0 rfl wd_217 rfl dX2_knows_1 ?_
  refine v_iload_n C 2 dX2_knows_4 rfl ?_
  obtain ⟨e1, e2, h⟩ := h
  refine v_iald C (ar_of ho0 ar_2_2) dX2_knows_5 e1 e2 ?_
  refine v_iload_n C 1 dX2_knows_6 rfl ?_
  refine v_ishr C dX2_knows_7 ?_
  refine v_iconst C dX2_knows_8 ?_
  refine v_iand C dX2_knows_9 ?_
  obtain ⟨e3, e4, e5⟩ := h
  refine v_if_eq (tgt := 17) C dX2_knows_10 (by decide) e3 (fun e6 => ?_) (fun e6 => ?_)
  · have h := e4 e6
    refine v_iconst C dX2_knows_17 ?_
    exact v_zret (z := false) C E dX2_knows_18 h
  · have h := e5 e6
    refine v_iconst C dX2_knows_13 ?_
    refine v_goto (tgt := 18) C dX2_knows_14 (by decide) ?_
    exact v_zret (z := true) C E dX2_knows_18 h
def wp_X2_heardAt (o0 : Nat) (v1 : Int) (v2 : Int) (T : TH) (Q : Int → TH → Prop) : Prop :=
  0 ≤ ((v1 * 8) + v2) ∧ ((v1 * 8) + v2) < 56 ∧ Q (T o0 4 ((v1 * 8) + v2)) T
set_option maxRecDepth 100000 in
theorem s_X2_heardAt (G : GT) (l0 : Launch) {o0 : Nat} {v1 : Int} {v2 : Int} {T : TH} {Q : Int → TH → Prop} (ho0 : clsO o0 = 2) (h : wp_X2_heardAt o0 v1 v2 T Q) : MT G l0 yX2_heardAt cX2_heardAt 3 (some .int) 0 0 [.ref (gad G o0), .int (zI v1), .int (zI v2)] T (QI G Q) := by
  refine mt_of G l0 (by decide) (Nat.le_of_ble_eq_true rfl) (fun X C E => ?_)
  show V G X T 0 [(0, .ref (gad G o0)), (1, .int (zI v1)), (2, .int (zI v2))] []
  unfold wp_X2_heardAt at h
  refine v_aload_n C 0 dX2_heardAt_0 rfl ?_
  refine v_getA C kX2 4 ho0 rfl wd_220 rfl dX2_heardAt_1 ?_
  refine v_iload_n C 1 dX2_heardAt_4 rfl ?_
  refine v_bipush C dX2_heardAt_5 (by decide) ?_
  refine v_imul C dX2_heardAt_7 ?_
  refine v_iload_n C 2 dX2_heardAt_8 rfl ?_
  refine v_iadd C dX2_heardAt_9 ?_
  obtain ⟨e1, e2, h⟩ := h
  refine v_iald C (ar_of ho0 ar_2_4) dX2_heardAt_10 e1 e2 ?_
  exact v_iret C E dX2_heardAt_11 h
def wp_X2_learn (o0 : Nat) (v1 : Int) (v2 : Int) (T : TH) (Q : TH → Prop) : Prop :=
  0 ≤ v2 ∧ v2 < 8 ∧ 0 ≤ v2 ∧ v2 < 8 ∧ ∀ T1 : TH, T1 = up T o0 2 v2 (zor (T o0 2 v2) (zshl 1 v1)) → 0 ≤ ((v1 * 8) + v2) ∧ ((v1 * 8) + v2) < 56 ∧ ∀ T2 : TH, T2 = up T1 o0 4 ((v1 * 8) + v2) (T1 o0 0 0) → Q T2
set_option maxRecDepth 100000 in
theorem s_X2_learn (G : GT) (l0 : Launch) {o0 : Nat} {v1 : Int} {v2 : Int} {T : TH} {Q : TH → Prop} (ho0 : clsO o0 = 2) (h : wp_X2_learn o0 v1 v2 T Q) : MT G l0 yX2_learn cX2_learn 3 none 0 0 [.ref (gad G o0), .int (zI v1), .int (zI v2)] T (QV G Q) := by
  refine mt_of G l0 (by decide) (Nat.le_of_ble_eq_true rfl) (fun X C E => ?_)
  show V G X T 0 [(0, .ref (gad G o0)), (1, .int (zI v1)), (2, .int (zI v2))] []
  unfold wp_X2_learn at h
  refine v_aload_n C 0 dX2_learn_0 rfl ?_
  refine v_getA C kX2 2 ho0 rfl wd_217 rfl dX2_learn_1 ?_
  refine v_iload_n C 2 dX2_learn_4 rfl ?_
  refine v_dup2 C dX2_learn_5 rfl rfl ?_
  obtain ⟨e1, e2, h⟩ := h
  refine v_iald C (ar_of ho0 ar_2_2) dX2_learn_6 e1 e2 ?_
  refine v_iconst C dX2_learn_7 ?_
  refine v_iload_n C 1 dX2_learn_8 rfl ?_
  refine v_ishl C dX2_learn_9 ?_
  refine v_ior C dX2_learn_10 ?_
  obtain ⟨e3, e4, h⟩ := h
  refine v_iast C (ar_of ho0 ar_2_2) dX2_learn_11 e3 e4 ?_
  have h := h _ rfl
  refine v_aload_n C 0 dX2_learn_12 rfl ?_
  refine v_getA C kX2 4 ho0 rfl wd_220 rfl dX2_learn_13 ?_
  refine v_iload_n C 1 dX2_learn_16 rfl ?_
  refine v_bipush C dX2_learn_17 (by decide) ?_
  refine v_imul C dX2_learn_19 ?_
  refine v_iload_n C 2 dX2_learn_20 rfl ?_
  refine v_iadd C dX2_learn_21 ?_
  refine v_aload_n C 0 dX2_learn_22 rfl ?_
  refine v_getI C kX2 0 ho0 rfl wd_213 rfl dX2_learn_23 ?_
  obtain ⟨e5, e6, h⟩ := h
  refine v_iast C (ar_of ho0 ar_2_4) dX2_learn_26 e5 e6 ?_
  have h := h _ rfl
  exact v_vret C E dX2_learn_27 h
def wp_X2_lose (o0 : Nat) (v1 : Int) (v2 : Int) (T : TH) (Q : TH → Prop) : Prop :=
  0 ≤ v2 ∧ v2 < 8 ∧ 0 ≤ v2 ∧ v2 < 8 ∧ ∀ T1 : TH, T1 = up T o0 2 v2 (zand (T o0 2 v2) (zxor (zshl 1 v1) (-1))) → Q T1
set_option maxRecDepth 100000 in
theorem s_X2_lose (G : GT) (l0 : Launch) {o0 : Nat} {v1 : Int} {v2 : Int} {T : TH} {Q : TH → Prop} (ho0 : clsO o0 = 2) (h : wp_X2_lose o0 v1 v2 T Q) : MT G l0 yX2_lose cX2_lose 3 none 0 0 [.ref (gad G o0), .int (zI v1), .int (zI v2)] T (QV G Q) := by
  refine mt_of G l0 (by decide) (Nat.le_of_ble_eq_true rfl) (fun X C E => ?_)
  show V G X T 0 [(0, .ref (gad G o0)), (1, .int (zI v1)), (2, .int (zI v2))] []
  unfold wp_X2_lose at h
  refine v_aload_n C 0 dX2_lose_0 rfl ?_
  refine v_getA C kX2 2 ho0 rfl wd_217 rfl dX2_lose_1 ?_
  refine v_iload_n C 2 dX2_lose_4 rfl ?_
  refine v_dup2 C dX2_lose_5 rfl rfl ?_
  obtain ⟨e1, e2, h⟩ := h
  refine v_iald C (ar_of ho0 ar_2_2) dX2_lose_6 e1 e2 ?_
  refine v_iconst C dX2_lose_7 ?_
  refine v_iload_n C 1 dX2_lose_8 rfl ?_
  refine v_ishl C dX2_lose_9 ?_
  refine v_iconst C dX2_lose_10 ?_
  refine v_ixor C dX2_lose_11 ?_
  refine v_iand C dX2_lose_12 ?_
  obtain ⟨e3, e4, h⟩ := h
  refine v_iast C (ar_of ho0 ar_2_2) dX2_lose_13 e3 e4 ?_
  have h := h _ rfl
  exact v_vret C E dX2_lose_14 h
def h_X2_factsIn_4 (o0 : Nat) (v1 : Int) (Q : Int → TH → Prop) : Nat → Int → Int → TH → Prop
  | 0, _, _, _ => False
  | n + 1, v2, v3, T => zR v3 ∧ (8 ≤ v3 → (Q v2 T)) ∧ (¬ (8 ≤ v3) → (0 ≤ v3 ∧ v3 < 8 ∧ ∀ w1 : Int, w1 = (zor v2 (zshl (zand (zshr (T o0 2 v3) v1) 1) v3)) → (h_X2_factsIn_4 o0 v1 Q n) w1 (v3 + 1) T))
def wp_X2_factsIn (o0 : Nat) (v1 : Int) (T : TH) (Q : Int → TH → Prop) : Prop :=
  (∃ m9 : Nat, h_X2_factsIn_4 o0 v1 Q m9 0 0 T)
set_option maxRecDepth 100000 in
theorem t_X2_factsIn_4 {G : GT} {l0 : Launch} {X : CX} (C : CT G l0 X cX2_factsIn 4 RX2 (rM 0 0)) {Q : Int → TH → Prop} (E : EN G X (some .int) (QI G Q)) {o0 : Nat} {v1 : Int} (ho0 : clsO o0 = 2) : ∀ (n : Nat) (v2 : Int) (v3 : Int) (T : TH), h_X2_factsIn_4 o0 v1 Q n v2 v3 T → V G X T 4 [(0, .ref (gad G o0)), (1, .int (zI v1)), (2, .int (zI v2)), (3, .int (zI v3))] [] := by
  intro n
  induction n with
  | zero =>
    intro v2 v3 T h
    exact h.elim
  | succ n ih =>
    intro v2 v3 T h
    rw [h_X2_factsIn_4] at h
    refine v_iload_n C 3 dX2_factsIn_4 rfl ?_
    refine v_bipush C dX2_factsIn_5 (by decide) ?_
    obtain ⟨e1, e2, e3⟩ := h
    refine v_icmp_ge (tgt := 31) C dX2_factsIn_7 (by decide) e1 ⟨by decide, by decide⟩ (fun e4 => ?_) (fun e4 => ?_)
    · have h := e2 e4
      refine v_iload_n C 2 dX2_factsIn_31 rfl ?_
      exact v_iret C E dX2_factsIn_32 h
    · have h := e3 e4
      refine v_iload_n C 2 dX2_factsIn_10 rfl ?_
      refine v_aload_n C 0 dX2_factsIn_11 rfl ?_
      refine v_getA C kX2 2 ho0 rfl wd_217 rfl dX2_factsIn_12 ?_
      refine v_iload_n C 3 dX2_factsIn_15 rfl ?_
      obtain ⟨e5, e6, h⟩ := h
      refine v_iald C (ar_of ho0 ar_2_2) dX2_factsIn_16 e5 e6 ?_
      refine v_iload_n C 1 dX2_factsIn_17 rfl ?_
      refine v_ishr C dX2_factsIn_18 ?_
      refine v_iconst C dX2_factsIn_19 ?_
      refine v_iand C dX2_factsIn_20 ?_
      refine v_iload_n C 3 dX2_factsIn_21 rfl ?_
      refine v_ishl C dX2_factsIn_22 ?_
      refine v_ior C dX2_factsIn_23 ?_
      refine v_istore_n C dX2_factsIn_24 rfl (by decide) ?_
      have h := h _ rfl
      refine v_iinc C 3 dX2_factsIn_25 rfl (by decide) ?_
      refine v_goto (tgt := 4) C dX2_factsIn_28 (by decide) ?_
      exact v_sub [2, 3, 1, 0] rfl (ih _ _ _ h)
set_option maxRecDepth 100000 in
theorem s_X2_factsIn (G : GT) (l0 : Launch) {o0 : Nat} {v1 : Int} {T : TH} {Q : Int → TH → Prop} (ho0 : clsO o0 = 2) (h : wp_X2_factsIn o0 v1 T Q) : MT G l0 yX2_factsIn cX2_factsIn 4 (some .int) 0 0 [.ref (gad G o0), .int (zI v1)] T (QI G Q) := by
  refine mt_of G l0 (by decide) (Nat.le_of_ble_eq_true rfl) (fun X C E => ?_)
  show V G X T 0 [(0, .ref (gad G o0)), (1, .int (zI v1))] []
  unfold wp_X2_factsIn at h
  refine v_iconst C dX2_factsIn_0 ?_
  refine v_istore_n C dX2_factsIn_1 rfl (by decide) ?_
  refine v_iconst C dX2_factsIn_2 ?_
  refine v_istore_n C dX2_factsIn_3 rfl (by decide) ?_
  obtain ⟨n9, h⟩ := h
  exact v_sub [2, 3, 1, 0] rfl (t_X2_factsIn_4 C E ho0 n9 _ _ _ h)
def h_X2_allHeads_4 (o0 : Nat) (o1 : Nat) (Q : Int → TH → Prop) : Nat → Int → Int → TH → Prop
  | 0, _, _, _ => False
  | n + 1, v2, v3, T => zR v3 ∧ zR (T o1 1 0) ∧ ((T o1 1 0) ≤ v3 → (Q v2 T)) ∧ (¬ ((T o1 1 0) ≤ v3) → (wp_X2_headsOf o0 o1 v3 T (fun r2 T1 => ∀ w3 : Int, w3 = (v2 + r2) → (h_X2_allHeads_4 o0 o1 Q n) w3 (v3 + 1) T1)))
def wp_X2_allHeads (o0 : Nat) (o1 : Nat) (T : TH) (Q : Int → TH → Prop) : Prop :=
  (∃ m9 : Nat, h_X2_allHeads_4 o0 o1 Q m9 0 0 T)
set_option maxRecDepth 100000 in
theorem t_X2_allHeads_4 {G : GT} {l0 : Launch} {X : CX} (C : CT G l0 X cX2_allHeads 4 RX2 (rM 2 42)) {Q : Int → TH → Prop} (E : EN G X (some .int) (QI G Q)) {o0 : Nat} {o1 : Nat} (ho0 : clsO o0 = 2) (ho1 : clsO o1 = 3) : ∀ (n : Nat) (v2 : Int) (v3 : Int) (T : TH), h_X2_allHeads_4 o0 o1 Q n v2 v3 T → V G X T 4 [(0, .ref (gad G o0)), (1, .ref (gad G o1)), (2, .int (zI v2)), (3, .int (zI v3))] [] := by
  intro n
  induction n with
  | zero =>
    intro v2 v3 T h
    exact h.elim
  | succ n ih =>
    intro v2 v3 T h
    rw [h_X2_allHeads_4] at h
    refine v_iload_n C 3 dX2_allHeads_4 rfl ?_
    refine v_aload_n C 1 dX2_allHeads_5 rfl ?_
    refine v_getI C kX3 1 ho1 rfl wd_124 rfl dX2_allHeads_6 ?_
    obtain ⟨e1, e2, e3, e4⟩ := h
    refine v_icmp_ge (tgt := 27) C dX2_allHeads_9 (by decide) e1 e2 (fun e5 => ?_) (fun e5 => ?_)
    · have h := e3 e5
      refine v_iload_n C 2 dX2_allHeads_27 rfl ?_
      exact v_iret C E dX2_allHeads_28 h
    · have h := e4 e5
      refine v_iload_n C 2 dX2_allHeads_12 rfl ?_
      refine v_aload_n C 0 dX2_allHeads_13 rfl ?_
      refine v_aload_n C 1 dX2_allHeads_14 rfl ?_
      refine v_iload_n C 3 dX2_allHeads_15 rfl ?_
      refine v_cVI C kX2 ho0 (s_X2_headsOf G l0 ho0 ho1 h) mv_X2_headsOf wd_475 ⟨by decide, by decide⟩ rfl rfl (Nat.le_of_ble_eq_true rfl) dX2_allHeads_16 (fun r2 T1 h => ?_)
      refine v_iadd C dX2_allHeads_19 ?_
      refine v_istore_n C dX2_allHeads_20 rfl (by decide) ?_
      have h := h _ rfl
      refine v_iinc C 3 dX2_allHeads_21 rfl (by decide) ?_
      refine v_goto (tgt := 4) C dX2_allHeads_24 (by decide) ?_
      exact v_sub [2, 3, 1, 0] rfl (ih _ _ _ h)
set_option maxRecDepth 100000 in
theorem s_X2_allHeads (G : GT) (l0 : Launch) {o0 : Nat} {o1 : Nat} {T : TH} {Q : Int → TH → Prop} (ho0 : clsO o0 = 2) (ho1 : clsO o1 = 3) (h : wp_X2_allHeads o0 o1 T Q) : MT G l0 yX2_allHeads cX2_allHeads 4 (some .int) 2 42 [.ref (gad G o0), .ref (gad G o1)] T (QI G Q) := by
  refine mt_of G l0 (by decide) (Nat.le_of_ble_eq_true rfl) (fun X C E => ?_)
  show V G X T 0 [(0, .ref (gad G o0)), (1, .ref (gad G o1))] []
  unfold wp_X2_allHeads at h
  refine v_iconst C dX2_allHeads_0 ?_
  refine v_istore_n C dX2_allHeads_1 rfl (by decide) ?_
  refine v_iconst C dX2_allHeads_2 ?_
  refine v_istore_n C dX2_allHeads_3 rfl (by decide) ?_
  obtain ⟨n9, h⟩ := h
  exact v_sub [2, 3, 1, 0] rfl (t_X2_allHeads_4 C E ho0 ho1 n9 _ _ _ h)
def b_X2_loadOfAll_33 (o0 : Nat) (o1 : Nat) (v2 : Int) (Q : Int → TH → Prop) (K5 : Int → Int → TH → Prop) (v3 : Int) (v4 : Int) (T : TH) : Prop :=
  K5 v3 (v4 + 1) T
def h_X2_loadOfAll_5 (o0 : Nat) (o1 : Nat) (v2 : Int) (Q : Int → TH → Prop) : Nat → Int → Int → TH → Prop
  | 0, _, _, _ => False
  | n + 1, v3, v4, T => zR v4 ∧ zR (T o1 0 0) ∧ ((T o1 0 0) ≤ v4 → (Q v3 T)) ∧ (¬ ((T o1 0 0) ≤ v4) → (zR (zand (zshr v2 v4) 1) ∧ ((zand (zshr v2 v4) 1) = 0 → (b_X2_loadOfAll_33 o0 o1 v2 Q (h_X2_loadOfAll_5 o0 o1 v2 Q n) v3 v4 T)) ∧ (¬ ((zand (zshr v2 v4) 1) = 0) → (wp_X2_load o0 o1 v4 T (fun r2 T1 => ∀ w3 : Int, w3 = (v3 + r2) → b_X2_loadOfAll_33 o0 o1 v2 Q (h_X2_loadOfAll_5 o0 o1 v2 Q n) w3 v4 T1)))))
def wp_X2_loadOfAll (o0 : Nat) (o1 : Nat) (v2 : Int) (T : TH) (Q : Int → TH → Prop) : Prop :=
  (∃ m9 : Nat, h_X2_loadOfAll_5 o0 o1 v2 Q m9 0 0 T)
set_option maxRecDepth 100000 in
theorem t_X2_loadOfAll_33 {G : GT} {l0 : Launch} {X : CX} (C : CT G l0 X cX2_loadOfAll 5 RX2 (rM 4 89)) {Q : Int → TH → Prop} (E : EN G X (some .int) (QI G Q)) {o0 : Nat} {o1 : Nat} {v2 : Int} (ho0 : clsO o0 = 2) (ho1 : clsO o1 = 3) {K5 : Int → Int → TH → Prop} (k5 : ∀ (v3 : Int) (v4 : Int) (T : TH), K5 v3 v4 T → V G X T 5 [(0, .ref (gad G o0)), (1, .ref (gad G o1)), (2, .int (zI v2)), (3, .int (zI v3)), (4, .int (zI v4))] []) {v3 : Int} {v4 : Int} {T : TH} (h : b_X2_loadOfAll_33 o0 o1 v2 Q K5 v3 v4 T) : V G X T 33 [(0, .ref (gad G o0)), (1, .ref (gad G o1)), (2, .int (zI v2)), (3, .int (zI v3)), (4, .int (zI v4))] [] := by
  unfold b_X2_loadOfAll_33 at h
  refine v_iinc C 4 dX2_loadOfAll_33 rfl (by decide) ?_
  refine v_goto (tgt := 5) C dX2_loadOfAll_36 (by decide) ?_
  exact v_sub [1, 2, 3, 4, 0] rfl (k5 _ _ _ h)
set_option maxRecDepth 100000 in
theorem t_X2_loadOfAll_5 {G : GT} {l0 : Launch} {X : CX} (C : CT G l0 X cX2_loadOfAll 5 RX2 (rM 4 89)) {Q : Int → TH → Prop} (E : EN G X (some .int) (QI G Q)) {o0 : Nat} {o1 : Nat} {v2 : Int} (ho0 : clsO o0 = 2) (ho1 : clsO o1 = 3) : ∀ (n : Nat) (v3 : Int) (v4 : Int) (T : TH), h_X2_loadOfAll_5 o0 o1 v2 Q n v3 v4 T → V G X T 5 [(0, .ref (gad G o0)), (1, .ref (gad G o1)), (2, .int (zI v2)), (3, .int (zI v3)), (4, .int (zI v4))] [] := by
  intro n
  induction n with
  | zero =>
    intro v3 v4 T h
    exact h.elim
  | succ n ih =>
    intro v3 v4 T h
    rw [h_X2_loadOfAll_5] at h
    refine v_iload C 4 dX2_loadOfAll_5 rfl ?_
    refine v_aload_n C 1 dX2_loadOfAll_7 rfl ?_
    refine v_getI C kX3 0 ho1 rfl wd_122 rfl dX2_loadOfAll_8 ?_
    obtain ⟨e1, e2, e3, e4⟩ := h
    refine v_icmp_ge (tgt := 39) C dX2_loadOfAll_11 (by decide) e1 e2 (fun e5 => ?_) (fun e5 => ?_)
    · have h := e3 e5
      refine v_iload_n C 3 dX2_loadOfAll_39 rfl ?_
      exact v_iret C E dX2_loadOfAll_40 h
    · have h := e4 e5
      refine v_iload_n C 2 dX2_loadOfAll_14 rfl ?_
      refine v_iload C 4 dX2_loadOfAll_15 rfl ?_
      refine v_ishr C dX2_loadOfAll_17 ?_
      refine v_iconst C dX2_loadOfAll_18 ?_
      refine v_iand C dX2_loadOfAll_19 ?_
      obtain ⟨e6, e7, e8⟩ := h
      refine v_if_eq (tgt := 33) C dX2_loadOfAll_20 (by decide) e6 (fun e9 => ?_) (fun e9 => ?_)
      · have h := e7 e9
        exact v_sub [0, 1, 2, 3, 4] rfl (t_X2_loadOfAll_33 C E ho0 ho1 ih h)
      · have h := e8 e9
        refine v_iload_n C 3 dX2_loadOfAll_23 rfl ?_
        refine v_aload_n C 0 dX2_loadOfAll_24 rfl ?_
        refine v_aload_n C 1 dX2_loadOfAll_25 rfl ?_
        refine v_iload C 4 dX2_loadOfAll_26 rfl ?_
        refine v_cVI C kX2 ho0 (s_X2_load G l0 ho0 ho1 h) mv_X2_load wd_641 ⟨by decide, by decide⟩ rfl rfl (Nat.le_of_ble_eq_true rfl) dX2_loadOfAll_28 (fun r2 T1 h => ?_)
        refine v_iadd C dX2_loadOfAll_31 ?_
        refine v_istore_n C dX2_loadOfAll_32 rfl (by decide) ?_
        have h := h _ rfl
        exact v_sub [1, 2, 3, 0, 4] rfl (t_X2_loadOfAll_33 C E ho0 ho1 ih h)
set_option maxRecDepth 100000 in
theorem s_X2_loadOfAll (G : GT) (l0 : Launch) {o0 : Nat} {o1 : Nat} {v2 : Int} {T : TH} {Q : Int → TH → Prop} (ho0 : clsO o0 = 2) (ho1 : clsO o1 = 3) (h : wp_X2_loadOfAll o0 o1 v2 T Q) : MT G l0 yX2_loadOfAll cX2_loadOfAll 5 (some .int) 4 89 [.ref (gad G o0), .ref (gad G o1), .int (zI v2)] T (QI G Q) := by
  refine mt_of G l0 (by decide) (Nat.le_of_ble_eq_true rfl) (fun X C E => ?_)
  show V G X T 0 [(0, .ref (gad G o0)), (1, .ref (gad G o1)), (2, .int (zI v2))] []
  unfold wp_X2_loadOfAll at h
  refine v_iconst C dX2_loadOfAll_0 ?_
  refine v_istore_n C dX2_loadOfAll_1 rfl (by decide) ?_
  refine v_iconst C dX2_loadOfAll_2 ?_
  refine v_istore C dX2_loadOfAll_3 (by decide) ?_
  obtain ⟨n9, h⟩ := h
  exact v_sub [2, 3, 4, 1, 0] rfl (t_X2_loadOfAll_5 C E ho0 ho1 n9 _ _ _ h)
def b_X2_forgetOld_61 (o0 : Nat) (o1 : Nat) (Q : TH → Prop) (K10 : Int → TH → Prop) (K20 : Int → Int → TH → Prop) (v2 : Int) (v3 : Int) (T : TH) : Prop :=
  K20 v2 (v3 + 1) T
def h_X2_forgetOld_20 (o0 : Nat) (o1 : Nat) (Q : TH → Prop) (K10 : Int → TH → Prop) : Nat → Int → Int → TH → Prop
  | 0, _, _, _ => False
  | n + 1, v2, v3, T => zR v3 ∧ zR (T o1 0 0) ∧ ((T o1 0 0) ≤ v3 → (K10 (v2 + 1) T)) ∧ (¬ ((T o1 0 0) ≤ v3) → (wp_X2_knows o0 v3 v2 T (fun p2 T1 => (p2 = false → (b_X2_forgetOld_61 o0 o1 Q K10 (h_X2_forgetOld_20 o0 o1 Q K10 n) v2 v3 T1)) ∧ (p2 = true → (wp_X2_heardAt o0 v3 v2 T1 (fun r4 T3 => zR ((T1 o0 0 0) - r4) ∧ zR (T3 o1 4 0) ∧ (((T1 o0 0 0) - r4) < (T3 o1 4 0) → (b_X2_forgetOld_61 o0 o1 Q K10 (h_X2_forgetOld_20 o0 o1 Q K10 n) v2 v3 T3)) ∧ (¬ (((T1 o0 0 0) - r4) < (T3 o1 4 0)) → (wp_X2_lose o0 v3 v2 T3 (fun T5 => b_X2_forgetOld_61 o0 o1 Q K10 (h_X2_forgetOld_20 o0 o1 Q K10 n) v2 v3 T5)))))))))
def h_X2_forgetOld_10 (o0 : Nat) (o1 : Nat) (Q : TH → Prop) : Nat → Int → TH → Prop
  | 0, _, _ => False
  | n + 1, v2, T => zR v2 ∧ zR (T o1 1 0) ∧ ((T o1 1 0) ≤ v2 → (Q T)) ∧ (¬ ((T o1 1 0) ≤ v2) → ((∃ m9 : Nat, h_X2_forgetOld_20 o0 o1 Q (h_X2_forgetOld_10 o0 o1 Q n) m9 v2 0 T)))
def wp_X2_forgetOld (o0 : Nat) (o1 : Nat) (T : TH) (Q : TH → Prop) : Prop :=
  zR (T o1 4 0) ∧ (¬ (T o1 4 0) = 0 → ((∃ m9 : Nat, h_X2_forgetOld_10 o0 o1 Q m9 0 T))) ∧ ((T o1 4 0) = 0 → (Q T))
set_option maxRecDepth 100000 in
theorem t_X2_forgetOld_61 {G : GT} {l0 : Launch} {X : CX} (C : CT G l0 X cX2_forgetOld 4 RX2 (rM 1 22)) {Q : TH → Prop} (E : EN G X none (QV G Q)) {o0 : Nat} {o1 : Nat} (ho0 : clsO o0 = 2) (ho1 : clsO o1 = 3) {K10 : Int → TH → Prop} {K20 : Int → Int → TH → Prop} (k10 : ∀ (v2 : Int) (T : TH), K10 v2 T → V G X T 10 [(0, .ref (gad G o0)), (1, .ref (gad G o1)), (2, .int (zI v2))] []) (k20 : ∀ (v2 : Int) (v3 : Int) (T : TH), K20 v2 v3 T → V G X T 20 [(0, .ref (gad G o0)), (1, .ref (gad G o1)), (2, .int (zI v2)), (3, .int (zI v3))] []) {v2 : Int} {v3 : Int} {T : TH} (h : b_X2_forgetOld_61 o0 o1 Q K10 K20 v2 v3 T) : V G X T 61 [(0, .ref (gad G o0)), (1, .ref (gad G o1)), (2, .int (zI v2)), (3, .int (zI v3))] [] := by
  unfold b_X2_forgetOld_61 at h
  refine v_iinc C 3 dX2_forgetOld_61 rfl (by decide) ?_
  refine v_goto (tgt := 20) C dX2_forgetOld_64 (by decide) ?_
  exact v_sub [1, 2, 3, 0] rfl (k20 _ _ _ h)
set_option maxRecDepth 100000 in
theorem t_X2_forgetOld_20 {G : GT} {l0 : Launch} {X : CX} (C : CT G l0 X cX2_forgetOld 4 RX2 (rM 1 22)) {Q : TH → Prop} (E : EN G X none (QV G Q)) {o0 : Nat} {o1 : Nat} (ho0 : clsO o0 = 2) (ho1 : clsO o1 = 3) {K10 : Int → TH → Prop} (k10 : ∀ (v2 : Int) (T : TH), K10 v2 T → V G X T 10 [(0, .ref (gad G o0)), (1, .ref (gad G o1)), (2, .int (zI v2))] []) : ∀ (n : Nat) (v2 : Int) (v3 : Int) (T : TH), h_X2_forgetOld_20 o0 o1 Q K10 n v2 v3 T → V G X T 20 [(0, .ref (gad G o0)), (1, .ref (gad G o1)), (2, .int (zI v2)), (3, .int (zI v3))] [] := by
  intro n
  induction n with
  | zero =>
    intro v2 v3 T h
    exact h.elim
  | succ n ih =>
    intro v2 v3 T h
    rw [h_X2_forgetOld_20] at h
    refine v_iload_n C 3 dX2_forgetOld_20 rfl ?_
    refine v_aload_n C 1 dX2_forgetOld_21 rfl ?_
    refine v_getI C kX3 0 ho1 rfl wd_122 rfl dX2_forgetOld_22 ?_
    obtain ⟨e1, e2, e3, e4⟩ := h
    refine v_icmp_ge (tgt := 67) C dX2_forgetOld_25 (by decide) e1 e2 (fun e5 => ?_) (fun e5 => ?_)
    · have h := e3 e5
      refine v_iinc C 2 dX2_forgetOld_67 rfl (by decide) ?_
      refine v_goto (tgt := 10) C dX2_forgetOld_70 (by decide) ?_
      exact v_sub [1, 2, 0] rfl (k10 _ _ h)
    · have h := e4 e5
      refine v_aload_n C 0 dX2_forgetOld_28 rfl ?_
      refine v_iload_n C 3 dX2_forgetOld_29 rfl ?_
      refine v_iload_n C 2 dX2_forgetOld_30 rfl ?_
      refine v_cVZ C kX2 ho0 (s_X2_knows G l0 ho0 h) mv_X2_knows wd_579 ⟨by decide, by decide⟩ rfl rfl (Nat.le_of_ble_eq_true rfl) dX2_forgetOld_31 (fun p2 T1 h => ?_)
      obtain ⟨e6, e7⟩ := h
      refine v_ifz_eq (tgt := 61) C dX2_forgetOld_34 (by decide) (fun e8 => ?_) (fun e8 => ?_)
      · have h := e6 e8
        exact v_sub [0, 1, 2, 3] rfl (t_X2_forgetOld_61 C E ho0 ho1 k10 ih h)
      · have h := e7 e8
        refine v_aload_n C 0 dX2_forgetOld_37 rfl ?_
        refine v_getI C kX2 0 ho0 rfl wd_213 rfl dX2_forgetOld_38 ?_
        refine v_aload_n C 0 dX2_forgetOld_41 rfl ?_
        refine v_iload_n C 3 dX2_forgetOld_42 rfl ?_
        refine v_iload_n C 2 dX2_forgetOld_43 rfl ?_
        refine v_cVI C kX2 ho0 (s_X2_heardAt G l0 ho0 h) mv_X2_heardAt wd_580 ⟨by decide, by decide⟩ rfl rfl (Nat.le_of_ble_eq_true rfl) dX2_forgetOld_44 (fun r4 T3 h => ?_)
        refine v_isub C dX2_forgetOld_47 ?_
        refine v_aload_n C 1 dX2_forgetOld_48 rfl ?_
        refine v_getI C kX3 4 ho1 rfl wd_139 rfl dX2_forgetOld_49 ?_
        obtain ⟨e9, e10, e11, e12⟩ := h
        refine v_icmp_lt (tgt := 61) C dX2_forgetOld_52 (by decide) e9 e10 (fun e13 => ?_) (fun e13 => ?_)
        · have h := e11 e13
          exact v_sub [0, 1, 2, 3] rfl (t_X2_forgetOld_61 C E ho0 ho1 k10 ih h)
        · have h := e12 e13
          refine v_aload_n C 0 dX2_forgetOld_55 rfl ?_
          refine v_iload_n C 3 dX2_forgetOld_56 rfl ?_
          refine v_iload_n C 2 dX2_forgetOld_57 rfl ?_
          refine v_cVN C kX2 ho0 (s_X2_lose G l0 ho0 h) mv_X2_lose wd_581 ⟨by decide, by decide⟩ rfl rfl (Nat.le_of_ble_eq_true rfl) dX2_forgetOld_58 (fun T5 h => ?_)
          exact v_sub [0, 1, 2, 3] rfl (t_X2_forgetOld_61 C E ho0 ho1 k10 ih h)
set_option maxRecDepth 100000 in
theorem t_X2_forgetOld_10 {G : GT} {l0 : Launch} {X : CX} (C : CT G l0 X cX2_forgetOld 4 RX2 (rM 1 22)) {Q : TH → Prop} (E : EN G X none (QV G Q)) {o0 : Nat} {o1 : Nat} (ho0 : clsO o0 = 2) (ho1 : clsO o1 = 3) : ∀ (n : Nat) (v2 : Int) (T : TH), h_X2_forgetOld_10 o0 o1 Q n v2 T → V G X T 10 [(0, .ref (gad G o0)), (1, .ref (gad G o1)), (2, .int (zI v2))] [] := by
  intro n
  induction n with
  | zero =>
    intro v2 T h
    exact h.elim
  | succ n ih =>
    intro v2 T h
    rw [h_X2_forgetOld_10] at h
    refine v_iload_n C 2 dX2_forgetOld_10 rfl ?_
    refine v_aload_n C 1 dX2_forgetOld_11 rfl ?_
    refine v_getI C kX3 1 ho1 rfl wd_124 rfl dX2_forgetOld_12 ?_
    obtain ⟨e1, e2, e3, e4⟩ := h
    refine v_icmp_ge (tgt := 73) C dX2_forgetOld_15 (by decide) e1 e2 (fun e5 => ?_) (fun e5 => ?_)
    · have h := e3 e5
      exact v_vret C E dX2_forgetOld_73 h
    · have h := e4 e5
      refine v_iconst C dX2_forgetOld_18 ?_
      refine v_istore_n C dX2_forgetOld_19 rfl (by decide) ?_
      obtain ⟨n9, h⟩ := h
      exact v_sub [1, 2, 3, 0] rfl (t_X2_forgetOld_20 C E ho0 ho1 ih n9 _ _ _ h)
set_option maxRecDepth 100000 in
theorem s_X2_forgetOld (G : GT) (l0 : Launch) {o0 : Nat} {o1 : Nat} {T : TH} {Q : TH → Prop} (ho0 : clsO o0 = 2) (ho1 : clsO o1 = 3) (h : wp_X2_forgetOld o0 o1 T Q) : MT G l0 yX2_forgetOld cX2_forgetOld 4 none 1 22 [.ref (gad G o0), .ref (gad G o1)] T (QV G Q) := by
  refine mt_of G l0 (by decide) (Nat.le_of_ble_eq_true rfl) (fun X C E => ?_)
  show V G X T 0 [(0, .ref (gad G o0)), (1, .ref (gad G o1))] []
  unfold wp_X2_forgetOld at h
  refine v_aload_n C 1 dX2_forgetOld_0 rfl ?_
  refine v_getI C kX3 4 ho1 rfl wd_139 rfl dX2_forgetOld_1 ?_
  obtain ⟨e1, e2, e3⟩ := h
  refine v_if_ne (tgt := 8) C dX2_forgetOld_4 (by decide) e1 (fun e4 => ?_) (fun e4 => ?_)
  · have h := e2 e4
    refine v_iconst C dX2_forgetOld_8 ?_
    refine v_istore_n C dX2_forgetOld_9 rfl (by decide) ?_
    obtain ⟨n9, h⟩ := h
    exact v_sub [1, 2, 0] rfl (t_X2_forgetOld_10 C E ho0 ho1 n9 _ _ h)
  · have h := e3 e4
    exact v_vret C E dX2_forgetOld_7 h
def b_X2_chat_38 (o0 : Nat) (o1 : Nat) (v2 : Int) (Q : TH → Prop) (K2 : Int → TH → Prop) (v3 : Int) (s0 : Int) (T : TH) : Prop :=
  zR s0 ∧ (s0 = 0 → (K2 (v3 + 1) T)) ∧ (¬ (s0 = 0) → (0 ≤ v3 ∧ v3 < 8 ∧ 0 ≤ v3 ∧ v3 < 8 ∧ ∀ T1 : TH, T1 = up T o0 3 v3 (zor (T o0 3 v3) (zand s0 (-s0))) → Q T1))
def h_X2_chat_2 (o0 : Nat) (o1 : Nat) (v2 : Int) (Q : TH → Prop) : Nat → Int → TH → Prop
  | 0, _, _ => False
  | n + 1, v3, T => zR v3 ∧ zR (T o1 1 0) ∧ ((T o1 1 0) ≤ v3 → (Q T)) ∧ (¬ ((T o1 1 0) ≤ v3) → (wp_X2_knows o0 v2 v3 T (fun p2 T1 => (p2 = false → (b_X2_chat_38 o0 o1 v2 Q (h_X2_chat_2 o0 o1 v2 Q n) v3 0 T1)) ∧ (p2 = true → (0 ≤ v2 ∧ v2 < 7 ∧ 0 ≤ v3 ∧ v3 < 8 ∧ b_X2_chat_38 o0 o1 v2 Q (h_X2_chat_2 o0 o1 v2 Q n) v3 (zand (T1 o1 12 v2) (zxor (T1 o0 2 v3) (-1))) T1)))))
def wp_X2_chat (o0 : Nat) (o1 : Nat) (v2 : Int) (T : TH) (Q : TH → Prop) : Prop :=
  (∃ m9 : Nat, h_X2_chat_2 o0 o1 v2 Q m9 0 T)
set_option maxRecDepth 100000 in
theorem t_X2_chat_38 {G : GT} {l0 : Launch} {X : CX} (C : CT G l0 X cX2_chat 5 RX2 (rM 1 22)) {Q : TH → Prop} (E : EN G X none (QV G Q)) {o0 : Nat} {o1 : Nat} {v2 : Int} (ho0 : clsO o0 = 2) (ho1 : clsO o1 = 3) {K2 : Int → TH → Prop} (k2 : ∀ (v3 : Int) (T : TH), K2 v3 T → V G X T 2 [(0, .ref (gad G o0)), (1, .ref (gad G o1)), (2, .int (zI v2)), (3, .int (zI v3))] []) {v3 : Int} {s0 : Int} {T : TH} (h : b_X2_chat_38 o0 o1 v2 Q K2 v3 s0 T) : V G X T 38 [(0, .ref (gad G o0)), (1, .ref (gad G o1)), (2, .int (zI v2)), (3, .int (zI v3))] [.int (zI s0)] := by
  unfold b_X2_chat_38 at h
  refine v_istore C dX2_chat_38 (by decide) ?_
  refine v_iload C 0 dX2_chat_40 rfl ?_
  obtain ⟨e1, e2, e3⟩ := h
  refine v_if_eq (tgt := 61) C dX2_chat_42 (by decide) e1 (fun e4 => ?_) (fun e4 => ?_)
  · have h := e2 e4
    refine v_iinc C 4 dX2_chat_61 rfl (by decide) ?_
    refine v_goto (tgt := 2) C dX2_chat_64 (by decide) ?_
    exact v_sub [2, 3, 4, 0] rfl (k2 _ _ h)
  · have h := e3 e4
    refine v_aload_n C 1 dX2_chat_45 rfl ?_
    refine v_getA C kX2 3 ho0 rfl wd_219 rfl dX2_chat_46 ?_
    refine v_iload_n C 4 dX2_chat_49 rfl ?_
    refine v_dup2 C dX2_chat_50 rfl rfl ?_
    obtain ⟨e5, e6, h⟩ := h
    refine v_iald C (ar_of ho0 ar_2_3) dX2_chat_51 e5 e6 ?_
    refine v_iload C 0 dX2_chat_52 rfl ?_
    refine v_iload C 0 dX2_chat_54 rfl ?_
    refine v_ineg C dX2_chat_56 ?_
    refine v_iand C dX2_chat_57 ?_
    refine v_ior C dX2_chat_58 ?_
    obtain ⟨e7, e8, h⟩ := h
    refine v_iast C (ar_of ho0 ar_2_3) dX2_chat_59 e7 e8 ?_
    have h := h _ rfl
    exact v_vret C E dX2_chat_60 h
set_option maxRecDepth 100000 in
theorem t_X2_chat_2 {G : GT} {l0 : Launch} {X : CX} (C : CT G l0 X cX2_chat 5 RX2 (rM 1 22)) {Q : TH → Prop} (E : EN G X none (QV G Q)) {o0 : Nat} {o1 : Nat} {v2 : Int} (ho0 : clsO o0 = 2) (ho1 : clsO o1 = 3) : ∀ (n : Nat) (v3 : Int) (T : TH), h_X2_chat_2 o0 o1 v2 Q n v3 T → V G X T 2 [(0, .ref (gad G o0)), (1, .ref (gad G o1)), (2, .int (zI v2)), (3, .int (zI v3))] [] := by
  intro n
  induction n with
  | zero =>
    intro v3 T h
    exact h.elim
  | succ n ih =>
    intro v3 T h
    rw [h_X2_chat_2] at h
    refine v_iload_n C 3 dX2_chat_2 rfl ?_
    refine v_aload_n C 1 dX2_chat_3 rfl ?_
    refine v_getI C kX3 1 ho1 rfl wd_124 rfl dX2_chat_4 ?_
    obtain ⟨e1, e2, e3, e4⟩ := h
    refine v_icmp_ge (tgt := 67) C dX2_chat_7 (by decide) e1 e2 (fun e5 => ?_) (fun e5 => ?_)
    · have h := e3 e5
      exact v_vret C E dX2_chat_67 h
    · have h := e4 e5
      refine v_aload_n C 0 dX2_chat_10 rfl ?_
      refine v_iload_n C 2 dX2_chat_11 rfl ?_
      refine v_iload_n C 3 dX2_chat_12 rfl ?_
      refine v_cVZ C kX2 ho0 (s_X2_knows G l0 ho0 h) mv_X2_knows wd_579 ⟨by decide, by decide⟩ rfl rfl (Nat.le_of_ble_eq_true rfl) dX2_chat_13 (fun p2 T1 h => ?_)
      obtain ⟨e6, e7⟩ := h
      refine v_ifz_eq (tgt := 37) C dX2_chat_16 (by decide) (fun e8 => ?_) (fun e8 => ?_)
      · have h := e6 e8
        refine v_iconst C dX2_chat_37 ?_
        exact v_sub [0, 1, 2, 3] rfl (t_X2_chat_38 C E ho0 ho1 ih h)
      · have h := e7 e8
        refine v_aload_n C 1 dX2_chat_19 rfl ?_
        refine v_getA C kX3 12 ho1 rfl wd_168 rfl dX2_chat_20 ?_
        refine v_iload_n C 2 dX2_chat_23 rfl ?_
        obtain ⟨e9, e10, h⟩ := h
        refine v_iald C (ar_of ho1 ar_3_12) dX2_chat_24 e9 e10 ?_
        refine v_aload_n C 0 dX2_chat_25 rfl ?_
        refine v_getA C kX2 2 ho0 rfl wd_217 rfl dX2_chat_26 ?_
        refine v_iload_n C 3 dX2_chat_29 rfl ?_
        obtain ⟨e11, e12, h⟩ := h
        refine v_iald C (ar_of ho0 ar_2_2) dX2_chat_30 e11 e12 ?_
        refine v_iconst C dX2_chat_31 ?_
        refine v_ixor C dX2_chat_32 ?_
        refine v_iand C dX2_chat_33 ?_
        refine v_goto (tgt := 38) C dX2_chat_34 (by decide) ?_
        exact v_sub [0, 1, 2, 3] rfl (t_X2_chat_38 C E ho0 ho1 ih h)
set_option maxRecDepth 100000 in
theorem s_X2_chat (G : GT) (l0 : Launch) {o0 : Nat} {o1 : Nat} {v2 : Int} {T : TH} {Q : TH → Prop} (ho0 : clsO o0 = 2) (ho1 : clsO o1 = 3) (h : wp_X2_chat o0 o1 v2 T Q) : MT G l0 yX2_chat cX2_chat 5 none 1 22 [.ref (gad G o0), .ref (gad G o1), .int (zI v2)] T (QV G Q) := by
  refine mt_of G l0 (by decide) (Nat.le_of_ble_eq_true rfl) (fun X C E => ?_)
  show V G X T 0 [(0, .ref (gad G o0)), (1, .ref (gad G o1)), (2, .int (zI v2))] []
  unfold wp_X2_chat at h
  refine v_iconst C dX2_chat_0 ?_
  refine v_istore_n C dX2_chat_1 rfl (by decide) ?_
  obtain ⟨n9, h⟩ := h
  exact v_sub [1, 2, 3, 0] rfl (t_X2_chat_2 C E ho0 ho1 n9 _ _ h)
def wp_X3_isQuiet (o0 : Nat) (v1 : Int) (T : TH) (Q : Bool → TH → Prop) : Prop :=
  zR (zand (zshr (T o0 5 0) v1) 1) ∧ ((zand (zshr (T o0 5 0) v1) 1) = 0 → (Q false T)) ∧ (¬ ((zand (zshr (T o0 5 0) v1) 1) = 0) → (Q true T))
set_option maxRecDepth 100000 in
theorem s_X3_isQuiet (G : GT) (l0 : Launch) {o0 : Nat} {v1 : Int} {T : TH} {Q : Bool → TH → Prop} (ho0 : clsO o0 = 3) (h : wp_X3_isQuiet o0 v1 T Q) : MT G l0 yX3_isQuiet cX3_isQuiet 2 (some .boolean) 0 0 [.ref (gad G o0), .int (zI v1)] T (QZ G Q) := by
  refine mt_of G l0 (by decide) (Nat.le_of_ble_eq_true rfl) (fun X C E => ?_)
  show V G X T 0 [(0, .ref (gad G o0)), (1, .int (zI v1))] []
  unfold wp_X3_isQuiet at h
  refine v_aload_n C 0 dX3_isQuiet_0 rfl ?_
  refine v_getI C kX3 5 ho0 rfl wd_140 rfl dX3_isQuiet_1 ?_
  refine v_iload_n C 1 dX3_isQuiet_4 rfl ?_
  refine v_ishr C dX3_isQuiet_5 ?_
  refine v_iconst C dX3_isQuiet_6 ?_
  refine v_iand C dX3_isQuiet_7 ?_
  obtain ⟨e1, e2, e3⟩ := h
  refine v_if_eq (tgt := 15) C dX3_isQuiet_8 (by decide) e1 (fun e4 => ?_) (fun e4 => ?_)
  · have h := e2 e4
    refine v_iconst C dX3_isQuiet_15 ?_
    exact v_zret (z := false) C E dX3_isQuiet_16 h
  · have h := e3 e4
    refine v_iconst C dX3_isQuiet_11 ?_
    refine v_goto (tgt := 16) C dX3_isQuiet_12 (by decide) ?_
    exact v_zret (z := true) C E dX3_isQuiet_16 h
def b_X2_tellOn_92 (o0 : Nat) (o1 : Nat) (Q : TH → Prop) (K40 : Int → TH → Prop) (v2 : Int) (T : TH) : Prop :=
  K40 (v2 + 1) T
def b_X2_tellOn_86 (o0 : Nat) (o1 : Nat) (Q : TH → Prop) (K40 : Int → TH → Prop) (K50 : Int → Int → TH → Prop) (v2 : Int) (v3 : Int) (T : TH) : Prop :=
  K50 v2 (v3 + 1) T
def h_X2_tellOn_50 (o0 : Nat) (o1 : Nat) (Q : TH → Prop) (K40 : Int → TH → Prop) : Nat → Int → Int → TH → Prop
  | 0, _, _, _ => False
  | n + 1, v2, v3, T => 0 ≤ v2 ∧ v2 < 8 ∧ zR (T o0 3 v2) ∧ ((T o0 3 v2) = 0 → (b_X2_tellOn_92 o0 o1 Q K40 v2 T)) ∧ (¬ ((T o0 3 v2) = 0) → (zR v3 ∧ zR (T o1 0 0) ∧ ((T o1 0 0) ≤ v3 → (b_X2_tellOn_92 o0 o1 Q K40 v2 T)) ∧ (¬ ((T o1 0 0) ≤ v3) → (0 ≤ v2 ∧ v2 < 8 ∧ zR (zand (zshr (T o0 3 v2) v3) 1) ∧ ((zand (zshr (T o0 3 v2) v3) 1) = 0 → (b_X2_tellOn_86 o0 o1 Q K40 (h_X2_tellOn_50 o0 o1 Q K40 n) v2 v3 T)) ∧ (¬ ((zand (zshr (T o0 3 v2) v3) 1) = 0) → (wp_X2_learn o0 v3 v2 T (fun T1 => b_X2_tellOn_86 o0 o1 Q K40 (h_X2_tellOn_50 o0 o1 Q K40 n) v2 v3 T1)))))))
def h_X2_tellOn_40 (o0 : Nat) (o1 : Nat) (Q : TH → Prop) : Nat → Int → TH → Prop
  | 0, _, _ => False
  | n + 1, v2, T => zR v2 ∧ zR (T o1 1 0) ∧ ((T o1 1 0) ≤ v2 → (Q T)) ∧ (¬ ((T o1 1 0) ≤ v2) → ((∃ m9 : Nat, h_X2_tellOn_50 o0 o1 Q (h_X2_tellOn_40 o0 o1 Q n) m9 v2 0 T)))
def b_X2_tellOn_32 (o0 : Nat) (o1 : Nat) (Q : TH → Prop) (K10 : Int → TH → Prop) (v2 : Int) (T : TH) : Prop :=
  K10 (v2 + 1) T
def h_X2_tellOn_10 (o0 : Nat) (o1 : Nat) (Q : TH → Prop) : Nat → Int → TH → Prop
  | 0, _, _ => False
  | n + 1, v2, T => zR v2 ∧ zR (T o1 0 0) ∧ ((T o1 0 0) ≤ v2 → ((∃ m9 : Nat, h_X2_tellOn_40 o0 o1 Q m9 0 T))) ∧ (¬ ((T o1 0 0) ≤ v2) → (wp_X3_isQuiet o1 v2 T (fun p2 T1 => (p2 = true → (b_X2_tellOn_32 o0 o1 Q (h_X2_tellOn_10 o0 o1 Q n) v2 T1)) ∧ (p2 = false → (wp_X2_chat o0 o1 v2 T1 (fun T3 => b_X2_tellOn_32 o0 o1 Q (h_X2_tellOn_10 o0 o1 Q n) v2 T3))))))
def wp_X2_tellOn (o0 : Nat) (o1 : Nat) (T : TH) (Q : TH → Prop) : Prop :=
  wp_J7_fill_53178 o0 3 8 0 T (fun T1 => (∃ m9 : Nat, h_X2_tellOn_10 o0 o1 Q m9 0 T1))
set_option maxRecDepth 100000 in
theorem t_X2_tellOn_92 {G : GT} {l0 : Launch} {X : CX} (C : CT G l0 X cX2_tellOn 4 RX2 (rM 2 46)) {Q : TH → Prop} (E : EN G X none (QV G Q)) {o0 : Nat} {o1 : Nat} (ho0 : clsO o0 = 2) (ho1 : clsO o1 = 3) {K40 : Int → TH → Prop} (k40 : ∀ (v2 : Int) (T : TH), K40 v2 T → V G X T 40 [(0, .ref (gad G o0)), (1, .ref (gad G o1)), (2, .int (zI v2))] []) {v2 : Int} {T : TH} (h : b_X2_tellOn_92 o0 o1 Q K40 v2 T) : V G X T 92 [(0, .ref (gad G o0)), (1, .ref (gad G o1)), (2, .int (zI v2))] [] := by
  unfold b_X2_tellOn_92 at h
  refine v_iinc C 2 dX2_tellOn_92 rfl (by decide) ?_
  refine v_goto (tgt := 40) C dX2_tellOn_95 (by decide) ?_
  exact v_sub [1, 2, 0] rfl (k40 _ _ h)
set_option maxRecDepth 100000 in
theorem t_X2_tellOn_86 {G : GT} {l0 : Launch} {X : CX} (C : CT G l0 X cX2_tellOn 4 RX2 (rM 2 46)) {Q : TH → Prop} (E : EN G X none (QV G Q)) {o0 : Nat} {o1 : Nat} (ho0 : clsO o0 = 2) (ho1 : clsO o1 = 3) {K40 : Int → TH → Prop} {K50 : Int → Int → TH → Prop} (k40 : ∀ (v2 : Int) (T : TH), K40 v2 T → V G X T 40 [(0, .ref (gad G o0)), (1, .ref (gad G o1)), (2, .int (zI v2))] []) (k50 : ∀ (v2 : Int) (v3 : Int) (T : TH), K50 v2 v3 T → V G X T 50 [(0, .ref (gad G o0)), (1, .ref (gad G o1)), (2, .int (zI v2)), (3, .int (zI v3))] []) {v2 : Int} {v3 : Int} {T : TH} (h : b_X2_tellOn_86 o0 o1 Q K40 K50 v2 v3 T) : V G X T 86 [(0, .ref (gad G o0)), (1, .ref (gad G o1)), (2, .int (zI v2)), (3, .int (zI v3))] [] := by
  unfold b_X2_tellOn_86 at h
  refine v_iinc C 3 dX2_tellOn_86 rfl (by decide) ?_
  refine v_goto (tgt := 50) C dX2_tellOn_89 (by decide) ?_
  exact v_sub [1, 2, 3, 0] rfl (k50 _ _ _ h)
set_option maxRecDepth 100000 in
theorem t_X2_tellOn_50 {G : GT} {l0 : Launch} {X : CX} (C : CT G l0 X cX2_tellOn 4 RX2 (rM 2 46)) {Q : TH → Prop} (E : EN G X none (QV G Q)) {o0 : Nat} {o1 : Nat} (ho0 : clsO o0 = 2) (ho1 : clsO o1 = 3) {K40 : Int → TH → Prop} (k40 : ∀ (v2 : Int) (T : TH), K40 v2 T → V G X T 40 [(0, .ref (gad G o0)), (1, .ref (gad G o1)), (2, .int (zI v2))] []) : ∀ (n : Nat) (v2 : Int) (v3 : Int) (T : TH), h_X2_tellOn_50 o0 o1 Q K40 n v2 v3 T → V G X T 50 [(0, .ref (gad G o0)), (1, .ref (gad G o1)), (2, .int (zI v2)), (3, .int (zI v3))] [] := by
  intro n
  induction n with
  | zero =>
    intro v2 v3 T h
    exact h.elim
  | succ n ih =>
    intro v2 v3 T h
    rw [h_X2_tellOn_50] at h
    refine v_aload_n C 0 dX2_tellOn_50 rfl ?_
    refine v_getA C kX2 3 ho0 rfl wd_219 rfl dX2_tellOn_51 ?_
    refine v_iload_n C 2 dX2_tellOn_54 rfl ?_
    obtain ⟨e1, e2, h⟩ := h
    refine v_iald C (ar_of ho0 ar_2_3) dX2_tellOn_55 e1 e2 ?_
    obtain ⟨e3, e4, e5⟩ := h
    refine v_if_eq (tgt := 92) C dX2_tellOn_56 (by decide) e3 (fun e6 => ?_) (fun e6 => ?_)
    · have h := e4 e6
      exact v_sub [0, 1, 2] rfl (t_X2_tellOn_92 C E ho0 ho1 k40 h)
    · have h := e5 e6
      refine v_iload_n C 3 dX2_tellOn_59 rfl ?_
      refine v_aload_n C 1 dX2_tellOn_60 rfl ?_
      refine v_getI C kX3 0 ho1 rfl wd_122 rfl dX2_tellOn_61 ?_
      obtain ⟨e7, e8, e9, e10⟩ := h
      refine v_icmp_ge (tgt := 92) C dX2_tellOn_64 (by decide) e7 e8 (fun e11 => ?_) (fun e11 => ?_)
      · have h := e9 e11
        exact v_sub [0, 1, 2] rfl (t_X2_tellOn_92 C E ho0 ho1 k40 h)
      · have h := e10 e11
        refine v_aload_n C 0 dX2_tellOn_67 rfl ?_
        refine v_getA C kX2 3 ho0 rfl wd_219 rfl dX2_tellOn_68 ?_
        refine v_iload_n C 2 dX2_tellOn_71 rfl ?_
        obtain ⟨e12, e13, h⟩ := h
        refine v_iald C (ar_of ho0 ar_2_3) dX2_tellOn_72 e12 e13 ?_
        refine v_iload_n C 3 dX2_tellOn_73 rfl ?_
        refine v_ishr C dX2_tellOn_74 ?_
        refine v_iconst C dX2_tellOn_75 ?_
        refine v_iand C dX2_tellOn_76 ?_
        obtain ⟨e14, e15, e16⟩ := h
        refine v_if_eq (tgt := 86) C dX2_tellOn_77 (by decide) e14 (fun e17 => ?_) (fun e17 => ?_)
        · have h := e15 e17
          exact v_sub [0, 1, 2, 3] rfl (t_X2_tellOn_86 C E ho0 ho1 k40 ih h)
        · have h := e16 e17
          refine v_aload_n C 0 dX2_tellOn_80 rfl ?_
          refine v_iload_n C 3 dX2_tellOn_81 rfl ?_
          refine v_iload_n C 2 dX2_tellOn_82 rfl ?_
          refine v_cVN C kX2 ho0 (s_X2_learn G l0 ho0 h) mv_X2_learn wd_591 ⟨by decide, by decide⟩ rfl rfl (Nat.le_of_ble_eq_true rfl) dX2_tellOn_83 (fun T1 h => ?_)
          exact v_sub [0, 1, 2, 3] rfl (t_X2_tellOn_86 C E ho0 ho1 k40 ih h)
set_option maxRecDepth 100000 in
theorem t_X2_tellOn_40 {G : GT} {l0 : Launch} {X : CX} (C : CT G l0 X cX2_tellOn 4 RX2 (rM 2 46)) {Q : TH → Prop} (E : EN G X none (QV G Q)) {o0 : Nat} {o1 : Nat} (ho0 : clsO o0 = 2) (ho1 : clsO o1 = 3) : ∀ (n : Nat) (v2 : Int) (T : TH), h_X2_tellOn_40 o0 o1 Q n v2 T → V G X T 40 [(0, .ref (gad G o0)), (1, .ref (gad G o1)), (2, .int (zI v2))] [] := by
  intro n
  induction n with
  | zero =>
    intro v2 T h
    exact h.elim
  | succ n ih =>
    intro v2 T h
    rw [h_X2_tellOn_40] at h
    refine v_iload_n C 2 dX2_tellOn_40 rfl ?_
    refine v_aload_n C 1 dX2_tellOn_41 rfl ?_
    refine v_getI C kX3 1 ho1 rfl wd_124 rfl dX2_tellOn_42 ?_
    obtain ⟨e1, e2, e3, e4⟩ := h
    refine v_icmp_ge (tgt := 98) C dX2_tellOn_45 (by decide) e1 e2 (fun e5 => ?_) (fun e5 => ?_)
    · have h := e3 e5
      exact v_vret C E dX2_tellOn_98 h
    · have h := e4 e5
      refine v_iconst C dX2_tellOn_48 ?_
      refine v_istore_n C dX2_tellOn_49 rfl (by decide) ?_
      obtain ⟨n9, h⟩ := h
      exact v_sub [1, 2, 3, 0] rfl (t_X2_tellOn_50 C E ho0 ho1 ih n9 _ _ _ h)
set_option maxRecDepth 100000 in
theorem t_X2_tellOn_32 {G : GT} {l0 : Launch} {X : CX} (C : CT G l0 X cX2_tellOn 4 RX2 (rM 2 46)) {Q : TH → Prop} (E : EN G X none (QV G Q)) {o0 : Nat} {o1 : Nat} (ho0 : clsO o0 = 2) (ho1 : clsO o1 = 3) {K10 : Int → TH → Prop} (k10 : ∀ (v2 : Int) (T : TH), K10 v2 T → V G X T 10 [(0, .ref (gad G o0)), (1, .ref (gad G o1)), (2, .int (zI v2))] []) {v2 : Int} {T : TH} (h : b_X2_tellOn_32 o0 o1 Q K10 v2 T) : V G X T 32 [(0, .ref (gad G o0)), (1, .ref (gad G o1)), (2, .int (zI v2))] [] := by
  unfold b_X2_tellOn_32 at h
  refine v_iinc C 2 dX2_tellOn_32 rfl (by decide) ?_
  refine v_goto (tgt := 10) C dX2_tellOn_35 (by decide) ?_
  exact v_sub [1, 2, 0] rfl (k10 _ _ h)
set_option maxRecDepth 100000 in
theorem t_X2_tellOn_10 {G : GT} {l0 : Launch} {X : CX} (C : CT G l0 X cX2_tellOn 4 RX2 (rM 2 46)) {Q : TH → Prop} (E : EN G X none (QV G Q)) {o0 : Nat} {o1 : Nat} (ho0 : clsO o0 = 2) (ho1 : clsO o1 = 3) : ∀ (n : Nat) (v2 : Int) (T : TH), h_X2_tellOn_10 o0 o1 Q n v2 T → V G X T 10 [(0, .ref (gad G o0)), (1, .ref (gad G o1)), (2, .int (zI v2))] [] := by
  intro n
  induction n with
  | zero =>
    intro v2 T h
    exact h.elim
  | succ n ih =>
    intro v2 T h
    rw [h_X2_tellOn_10] at h
    refine v_iload_n C 2 dX2_tellOn_10 rfl ?_
    refine v_aload_n C 1 dX2_tellOn_11 rfl ?_
    refine v_getI C kX3 0 ho1 rfl wd_122 rfl dX2_tellOn_12 ?_
    obtain ⟨e1, e2, e3, e4⟩ := h
    refine v_icmp_ge (tgt := 38) C dX2_tellOn_15 (by decide) e1 e2 (fun e5 => ?_) (fun e5 => ?_)
    · have h := e3 e5
      refine v_iconst C dX2_tellOn_38 ?_
      refine v_istore_n C dX2_tellOn_39 rfl (by decide) ?_
      obtain ⟨n9, h⟩ := h
      exact v_sub [1, 2, 0] rfl (t_X2_tellOn_40 C E ho0 ho1 n9 _ _ h)
    · have h := e4 e5
      refine v_aload_n C 1 dX2_tellOn_18 rfl ?_
      refine v_iload_n C 2 dX2_tellOn_19 rfl ?_
      refine v_cVZ C kX3 ho1 (s_X3_isQuiet G l0 ho1 h) mv_X3_isQuiet wd_586 ⟨by decide, by decide⟩ rfl rfl (Nat.le_of_ble_eq_true rfl) dX2_tellOn_20 (fun p2 T1 h => ?_)
      obtain ⟨e6, e7⟩ := h
      refine v_ifz_ne (tgt := 32) C dX2_tellOn_23 (by decide) (fun e8 => ?_) (fun e8 => ?_)
      · have h := e6 e8
        exact v_sub [0, 1, 2] rfl (t_X2_tellOn_32 C E ho0 ho1 ih h)
      · have h := e7 e8
        refine v_aload_n C 0 dX2_tellOn_26 rfl ?_
        refine v_aload_n C 1 dX2_tellOn_27 rfl ?_
        refine v_iload_n C 2 dX2_tellOn_28 rfl ?_
        refine v_cVN C kX2 ho0 (s_X2_chat G l0 ho0 ho1 h) mv_X2_chat wd_587 ⟨by decide, by decide⟩ rfl rfl (Nat.le_of_ble_eq_true rfl) dX2_tellOn_29 (fun T3 h => ?_)
        exact v_sub [0, 1, 2] rfl (t_X2_tellOn_32 C E ho0 ho1 ih h)
set_option maxRecDepth 100000 in
theorem s_X2_tellOn (G : GT) (l0 : Launch) {o0 : Nat} {o1 : Nat} {T : TH} {Q : TH → Prop} (ho0 : clsO o0 = 2) (ho1 : clsO o1 = 3) (h : wp_X2_tellOn o0 o1 T Q) : MT G l0 yX2_tellOn cX2_tellOn 4 none 2 46 [.ref (gad G o0), .ref (gad G o1)] T (QV G Q) := by
  refine mt_of G l0 (by decide) (Nat.le_of_ble_eq_true rfl) (fun X C E => ?_)
  show V G X T 0 [(0, .ref (gad G o0)), (1, .ref (gad G o1))] []
  unfold wp_X2_tellOn at h
  refine v_aload_n C 0 dX2_tellOn_0 rfl ?_
  refine v_getA C kX2 3 ho0 rfl wd_219 rfl dX2_tellOn_1 ?_
  refine v_iconst C dX2_tellOn_4 ?_
  refine v_cSN C (s_J7_fill_53178 G l0 (ar_of ho0 ar_2_3) h) mv_J7_fill_53178 wd_462 ⟨by decide, by decide⟩ rfl rfl (Nat.le_of_ble_eq_true rfl) dX2_tellOn_5 (fun T1 h => ?_)
  refine v_iconst C dX2_tellOn_8 ?_
  refine v_istore_n C dX2_tellOn_9 rfl (by decide) ?_
  obtain ⟨n9, h⟩ := h
  exact v_sub [1, 2, 0] rfl (t_X2_tellOn_10 C E ho0 ho1 n9 _ _ h)
def wp_X2_passHour (o0 : Nat) (o1 : Nat) (T : TH) (Q : TH → Prop) : Prop :=
  ∀ T1 : TH, T1 = up T o0 0 0 ((T o0 0 0) + 1) → wp_X2_forgetOld o0 o1 T1 (fun T2 => wp_X2_tellOn o0 o1 T2 (fun T3 => Q T3))
set_option maxRecDepth 100000 in
theorem s_X2_passHour (G : GT) (l0 : Launch) {o0 : Nat} {o1 : Nat} {T : TH} {Q : TH → Prop} (ho0 : clsO o0 = 2) (ho1 : clsO o1 = 3) (h : wp_X2_passHour o0 o1 T Q) : MT G l0 yX2_passHour cX2_passHour 2 none 3 69 [.ref (gad G o0), .ref (gad G o1)] T (QV G Q) := by
  refine mt_of G l0 (by decide) (Nat.le_of_ble_eq_true rfl) (fun X C E => ?_)
  show V G X T 0 [(0, .ref (gad G o0)), (1, .ref (gad G o1))] []
  unfold wp_X2_passHour at h
  refine v_aload_n C 0 dX2_passHour_0 rfl ?_
  refine v_dup C dX2_passHour_1 rfl ?_
  refine v_getI C kX2 0 ho0 rfl wd_213 rfl dX2_passHour_2 ?_
  refine v_iconst C dX2_passHour_5 ?_
  refine v_iadd C dX2_passHour_6 ?_
  refine v_putI C kX2 0 ho0 rfl wd_213 rfl rfl (tyX2_ok 0 (by decide)) dX2_passHour_7 ?_
  have h := h _ rfl
  refine v_aload_n C 0 dX2_passHour_10 rfl ?_
  refine v_aload_n C 1 dX2_passHour_11 rfl ?_
  refine v_cVN C kX2 ho0 (s_X2_forgetOld G l0 ho0 ho1 h) mv_X2_forgetOld wd_575 ⟨by decide, by decide⟩ rfl rfl (Nat.le_of_ble_eq_true rfl) dX2_passHour_12 (fun T2 h => ?_)
  refine v_aload_n C 0 dX2_passHour_15 rfl ?_
  refine v_aload_n C 1 dX2_passHour_16 rfl ?_
  refine v_cVN C kX2 ho0 (s_X2_tellOn G l0 ho0 ho1 h) mv_X2_tellOn wd_582 ⟨by decide, by decide⟩ rfl rfl (Nat.le_of_ble_eq_true rfl) dX2_passHour_17 (fun T3 h => ?_)
  exact v_vret C E dX2_passHour_20 h
def wp_X2_drawOf (o0 : Nat) (v1 : Int) (T : TH) (Q : Int → TH → Prop) : Prop :=
  zR (T o0 1 0) ∧ ∀ T1 : TH, T1 = up T o0 1 0 (zlandL (((T o0 1 0) * 1103515245) + 12345) 2147483647) → zR v1 ∧ (v1 ≤ 0 → (Q 0 T1)) ∧ (¬ (v1 ≤ 0) → (zR v1 ∧ v1 ≠ 0 ∧ Q (zrem (zdiv (T1 o0 1 0) 65536) v1) T1))
set_option maxRecDepth 100000 in
theorem s_X2_drawOf (G : GT) (l0 : Launch) {o0 : Nat} {v1 : Int} {T : TH} {Q : Int → TH → Prop} (ho0 : clsO o0 = 2) (h : wp_X2_drawOf o0 v1 T Q) : MT G l0 yX2_drawOf cX2_drawOf 2 (some .int) 0 0 [.ref (gad G o0), .int (zI v1)] T (QI G Q) := by
  refine mt_of G l0 (by decide) (Nat.le_of_ble_eq_true rfl) (fun X C E => ?_)
  show V G X T 0 [(0, .ref (gad G o0)), (1, .int (zI v1))] []
  unfold wp_X2_drawOf at h
  refine v_aload_n C 0 dX2_drawOf_0 rfl ?_
  refine v_aload_n C 0 dX2_drawOf_1 rfl ?_
  refine v_getI C kX2 1 ho0 rfl wd_215 rfl dX2_drawOf_2 ?_
  obtain ⟨e1, h⟩ := h
  refine v_i2l C dX2_drawOf_5 e1 ?_
  refine v_ldc2 (n := 1103515245) C dX2_drawOf_6 wd_604 (by decide) ?_
  refine v_lmul C dX2_drawOf_9 ?_
  refine v_ldc2 (n := 12345) C dX2_drawOf_10 wd_605 (by decide) ?_
  refine v_ladd C dX2_drawOf_13 ?_
  refine v_ldc2 (n := 2147483647) C dX2_drawOf_14 wd_606 (by decide) ?_
  refine v_land C dX2_drawOf_17 ?_
  refine v_l2i C dX2_drawOf_18 ?_
  refine v_putI C kX2 1 ho0 rfl wd_215 rfl rfl (tyX2_ok 1 (by decide)) dX2_drawOf_19 ?_
  have h := h _ rfl
  refine v_iload_n C 1 dX2_drawOf_22 rfl ?_
  obtain ⟨e2, e3, e4⟩ := h
  refine v_if_le (tgt := 38) C dX2_drawOf_23 (by decide) e2 (fun e5 => ?_) (fun e5 => ?_)
  · have h := e3 e5
    refine v_iconst C dX2_drawOf_38 ?_
    exact v_iret C E dX2_drawOf_39 h
  · have h := e4 e5
    refine v_aload_n C 0 dX2_drawOf_26 rfl ?_
    refine v_getI C kX2 1 ho0 rfl wd_215 rfl dX2_drawOf_27 ?_
    refine v_ldc (n := 65536) C dX2_drawOf_30 wd_607 (by decide) ?_
    refine v_idiv C dX2_drawOf_32 ⟨by decide, by decide⟩ (by decide) ?_
    refine v_iload_n C 1 dX2_drawOf_33 rfl ?_
    obtain ⟨e6, e7, h⟩ := h
    refine v_irem C dX2_drawOf_34 e6 e7 ?_
    refine v_goto (tgt := 39) C dX2_drawOf_35 (by decide) ?_
    exact v_iret C E dX2_drawOf_39 h
def wp_X2_changeByDraws (o0 : Nat) (o1 : Nat) (T : TH) (Q : TH → Prop) : Prop :=
  wp_X2_drawOf o0 (T o1 0 0) T (fun r2 T1 => zR (T1 o1 1 0) ∧ (¬ (T1 o1 1 0) = 0 → (wp_X2_drawOf o0 (T1 o1 1 0) T1 (fun r4 T3 => wp_X2_knows o0 r2 r4 T3 (fun p6 T5 => (p6 = false → (wp_X2_learn o0 r2 r4 T5 (fun T7 => Q T7))) ∧ (p6 = true → (wp_X2_lose o0 r2 r4 T5 (fun T8 => Q T8))))))) ∧ ((T1 o1 1 0) = 0 → (Q T1)))
set_option maxRecDepth 100000 in
theorem s_X2_changeByDraws (G : GT) (l0 : Launch) {o0 : Nat} {o1 : Nat} {T : TH} {Q : TH → Prop} (ho0 : clsO o0 = 2) (ho1 : clsO o1 = 3) (h : wp_X2_changeByDraws o0 o1 T Q) : MT G l0 yX2_changeByDraws cX2_changeByDraws 4 none 1 22 [.ref (gad G o0), .ref (gad G o1)] T (QV G Q) := by
  refine mt_of G l0 (by decide) (Nat.le_of_ble_eq_true rfl) (fun X C E => ?_)
  show V G X T 0 [(0, .ref (gad G o0)), (1, .ref (gad G o1))] []
  unfold wp_X2_changeByDraws at h
  refine v_aload_n C 0 dX2_changeByDraws_0 rfl ?_
  refine v_aload_n C 1 dX2_changeByDraws_1 rfl ?_
  refine v_getI C kX3 0 ho1 rfl wd_122 rfl dX2_changeByDraws_2 ?_
  refine v_cVI C kX2 ho0 (s_X2_drawOf G l0 ho0 h) mv_X2_drawOf wd_600 ⟨by decide, by decide⟩ rfl rfl (Nat.le_of_ble_eq_true rfl) dX2_changeByDraws_5 (fun r2 T1 h => ?_)
  refine v_istore_n C dX2_changeByDraws_8 rfl (by decide) ?_
  refine v_aload_n C 2 dX2_changeByDraws_9 rfl ?_
  refine v_getI C kX3 1 ho1 rfl wd_124 rfl dX2_changeByDraws_10 ?_
  obtain ⟨e1, e2, e3⟩ := h
  refine v_if_ne (tgt := 17) C dX2_changeByDraws_13 (by decide) e1 (fun e4 => ?_) (fun e4 => ?_)
  · have h := e2 e4
    refine v_aload_n C 1 dX2_changeByDraws_17 rfl ?_
    refine v_aload_n C 2 dX2_changeByDraws_18 rfl ?_
    refine v_getI C kX3 1 ho1 rfl wd_124 rfl dX2_changeByDraws_19 ?_
    refine v_cVI C kX2 ho0 (s_X2_drawOf G l0 ho0 h) mv_X2_drawOf wd_600 ⟨by decide, by decide⟩ rfl rfl (Nat.le_of_ble_eq_true rfl) dX2_changeByDraws_22 (fun r4 T3 h => ?_)
    refine v_istore_n C dX2_changeByDraws_25 rfl (by decide) ?_
    refine v_aload_n C 2 dX2_changeByDraws_26 rfl ?_
    refine v_iload_n C 1 dX2_changeByDraws_27 rfl ?_
    refine v_iload_n C 0 dX2_changeByDraws_28 rfl ?_
    refine v_cVZ C kX2 ho0 (s_X2_knows G l0 ho0 h) mv_X2_knows wd_579 ⟨by decide, by decide⟩ rfl rfl (Nat.le_of_ble_eq_true rfl) dX2_changeByDraws_29 (fun p6 T5 h => ?_)
    obtain ⟨e5, e6⟩ := h
    refine v_ifz_eq (tgt := 44) C dX2_changeByDraws_32 (by decide) (fun e7 => ?_) (fun e7 => ?_)
    · have h := e5 e7
      refine v_aload_n C 2 dX2_changeByDraws_44 rfl ?_
      refine v_iload_n C 1 dX2_changeByDraws_45 rfl ?_
      refine v_iload_n C 0 dX2_changeByDraws_46 rfl ?_
      refine v_cVN C kX2 ho0 (s_X2_learn G l0 ho0 h) mv_X2_learn wd_591 ⟨by decide, by decide⟩ rfl rfl (Nat.le_of_ble_eq_true rfl) dX2_changeByDraws_47 (fun T7 h => ?_)
      exact v_vret C E dX2_changeByDraws_50 h
    · have h := e6 e7
      refine v_aload_n C 2 dX2_changeByDraws_35 rfl ?_
      refine v_iload_n C 1 dX2_changeByDraws_36 rfl ?_
      refine v_iload_n C 0 dX2_changeByDraws_37 rfl ?_
      refine v_cVN C kX2 ho0 (s_X2_lose G l0 ho0 h) mv_X2_lose wd_581 ⟨by decide, by decide⟩ rfl rfl (Nat.le_of_ble_eq_true rfl) dX2_changeByDraws_38 (fun T8 h => ?_)
      refine v_goto (tgt := 50) C dX2_changeByDraws_41 (by decide) ?_
      exact v_vret C E dX2_changeByDraws_50 h
  · have h := e3 e4
    exact v_vret C E dX2_changeByDraws_16 h
def wp_X3_clear (o0 : Nat) (T : TH) (Q : TH → Prop) : Prop :=
  ∀ T1 : TH, T1 = up T o0 0 0 0 → ∀ T2 : TH, T2 = up T1 o0 1 0 0 → ∀ T3 : TH, T3 = up T2 o0 2 0 0 → ∀ T4 : TH, T4 = up T3 o0 3 0 0 → ∀ T5 : TH, T5 = up T4 o0 4 0 0 → ∀ T6 : TH, T6 = up T5 o0 5 0 0 → ∀ T7 : TH, T7 = up T6 o0 6 0 0 → ∀ T8 : TH, T8 = up T7 o0 7 0 0 → wp_J7_fill_53178 o0 10 8 0 T8 (fun T9 => wp_J7_fill_53178 o0 11 7 0 T9 (fun T10 => wp_J7_fill_53178 o0 12 7 0 T10 (fun T11 => Q T11)))
set_option maxRecDepth 100000 in
theorem s_X3_clear (G : GT) (l0 : Launch) {o0 : Nat} {T : TH} {Q : TH → Prop} (ho0 : clsO o0 = 3) (h : wp_X3_clear o0 T Q) : MT G l0 yX3_clear cX3_clear 1 none 1 23 [.ref (gad G o0)] T (QV G Q) := by
  refine mt_of G l0 (by decide) (Nat.le_of_ble_eq_true rfl) (fun X C E => ?_)
  show V G X T 0 [(0, .ref (gad G o0))] []
  unfold wp_X3_clear at h
  refine v_aload_n C 0 dX3_clear_0 rfl ?_
  refine v_iconst C dX3_clear_1 ?_
  refine v_putI C kX3 0 ho0 rfl wd_117 rfl rfl (tyX3_ok 0 (by decide)) dX3_clear_2 ?_
  have h := h _ rfl
  refine v_aload_n C 0 dX3_clear_5 rfl ?_
  refine v_iconst C dX3_clear_6 ?_
  refine v_putI C kX3 1 ho0 rfl wd_123 rfl rfl (tyX3_ok 1 (by decide)) dX3_clear_7 ?_
  have h := h _ rfl
  refine v_aload_n C 0 dX3_clear_10 rfl ?_
  refine v_iconst C dX3_clear_11 ?_
  refine v_putI C kX3 2 ho0 rfl wd_130 rfl rfl (tyX3_ok 2 (by decide)) dX3_clear_12 ?_
  have h := h _ rfl
  refine v_aload_n C 0 dX3_clear_15 rfl ?_
  refine v_iconst C dX3_clear_16 ?_
  refine v_putI C kX3 3 ho0 rfl wd_133 rfl rfl (tyX3_ok 3 (by decide)) dX3_clear_17 ?_
  have h := h _ rfl
  refine v_aload_n C 0 dX3_clear_20 rfl ?_
  refine v_iconst C dX3_clear_21 ?_
  refine v_putI C kX3 4 ho0 rfl wd_136 rfl rfl (tyX3_ok 4 (by decide)) dX3_clear_22 ?_
  have h := h _ rfl
  refine v_aload_n C 0 dX3_clear_25 rfl ?_
  refine v_iconst C dX3_clear_26 ?_
  refine v_putI C kX3 5 ho0 rfl wd_140 rfl rfl (tyX3_ok 5 (by decide)) dX3_clear_27 ?_
  have h := h _ rfl
  refine v_aload_n C 0 dX3_clear_30 rfl ?_
  refine v_iconst C dX3_clear_31 ?_
  refine v_putI C kX3 6 ho0 rfl wd_144 rfl rfl (tyX3_ok 6 (by decide)) dX3_clear_32 ?_
  have h := h _ rfl
  refine v_aload_n C 0 dX3_clear_35 rfl ?_
  refine v_iconst C dX3_clear_36 ?_
  refine v_putI C kX3 7 ho0 rfl wd_147 rfl rfl (tyX3_ok 7 (by decide)) dX3_clear_37 ?_
  have h := h _ rfl
  refine v_aload_n C 0 dX3_clear_40 rfl ?_
  refine v_getA C kX3 10 ho0 rfl wd_158 rfl dX3_clear_41 ?_
  refine v_iconst C dX3_clear_44 ?_
  refine v_cSN C (s_J7_fill_53178 G l0 (ar_of ho0 ar_3_10) h) mv_J7_fill_53178 wd_376 ⟨by decide, by decide⟩ rfl rfl (Nat.le_of_ble_eq_true rfl) dX3_clear_45 (fun T9 h => ?_)
  refine v_aload_n C 0 dX3_clear_48 rfl ?_
  refine v_getA C kX3 11 ho0 rfl wd_161 rfl dX3_clear_49 ?_
  refine v_iconst C dX3_clear_52 ?_
  refine v_cSN C (s_J7_fill_53178 G l0 (ar_of ho0 ar_3_11) h) mv_J7_fill_53178 wd_376 ⟨by decide, by decide⟩ rfl rfl (Nat.le_of_ble_eq_true rfl) dX3_clear_53 (fun T10 h => ?_)
  refine v_aload_n C 0 dX3_clear_56 rfl ?_
  refine v_getA C kX3 12 ho0 rfl wd_165 rfl dX3_clear_57 ?_
  refine v_iconst C dX3_clear_60 ?_
  refine v_cSN C (s_J7_fill_53178 G l0 (ar_of ho0 ar_3_12) h) mv_J7_fill_53178 wd_376 ⟨by decide, by decide⟩ rfl rfl (Nat.le_of_ble_eq_true rfl) dX3_clear_61 (fun T11 h => ?_)
  exact v_vret C E dX3_clear_64 h
def wp_X3_hasPerson (o0 : Nat) (v1 : Int) (T : TH) (Q : Bool → TH → Prop) : Prop :=
  zR v1 ∧ (v1 < 0 → (Q false T)) ∧ (¬ (v1 < 0) → (zR v1 ∧ zR (T o0 0 0) ∧ ((T o0 0 0) ≤ v1 → (Q false T)) ∧ (¬ ((T o0 0 0) ≤ v1) → (Q true T))))
set_option maxRecDepth 100000 in
theorem s_X3_hasPerson (G : GT) (l0 : Launch) {o0 : Nat} {v1 : Int} {T : TH} {Q : Bool → TH → Prop} (ho0 : clsO o0 = 3) (h : wp_X3_hasPerson o0 v1 T Q) : MT G l0 yX3_hasPerson cX3_hasPerson 2 (some .boolean) 0 0 [.ref (gad G o0), .int (zI v1)] T (QZ G Q) := by
  refine mt_of G l0 (by decide) (Nat.le_of_ble_eq_true rfl) (fun X C E => ?_)
  show V G X T 0 [(0, .ref (gad G o0)), (1, .int (zI v1))] []
  unfold wp_X3_hasPerson at h
  refine v_iload_n C 1 dX3_hasPerson_0 rfl ?_
  obtain ⟨e1, e2, e3⟩ := h
  refine v_if_lt (tgt := 16) C dX3_hasPerson_1 (by decide) e1 (fun e4 => ?_) (fun e4 => ?_)
  · have h := e2 e4
    refine v_iconst C dX3_hasPerson_16 ?_
    exact v_zret (z := false) C E dX3_hasPerson_17 h
  · have h := e3 e4
    refine v_iload_n C 1 dX3_hasPerson_4 rfl ?_
    refine v_aload_n C 0 dX3_hasPerson_5 rfl ?_
    refine v_getI C kX3 0 ho0 rfl wd_117 rfl dX3_hasPerson_6 ?_
    obtain ⟨e5, e6, e7, e8⟩ := h
    refine v_icmp_ge (tgt := 16) C dX3_hasPerson_9 (by decide) e5 e6 (fun e9 => ?_) (fun e9 => ?_)
    · have h := e7 e9
      refine v_iconst C dX3_hasPerson_16 ?_
      exact v_zret (z := false) C E dX3_hasPerson_17 h
    · have h := e8 e9
      refine v_iconst C dX3_hasPerson_12 ?_
      refine v_goto (tgt := 17) C dX3_hasPerson_13 (by decide) ?_
      exact v_zret (z := true) C E dX3_hasPerson_17 h
def wp_X3_everybody (o0 : Nat) (T : TH) (Q : Int → TH → Prop) : Prop :=
  Q ((zshl 1 (T o0 0 0)) - 1) T
set_option maxRecDepth 100000 in
theorem s_X3_everybody (G : GT) (l0 : Launch) {o0 : Nat} {T : TH} {Q : Int → TH → Prop} (ho0 : clsO o0 = 3) (h : wp_X3_everybody o0 T Q) : MT G l0 yX3_everybody cX3_everybody 1 (some .int) 0 0 [.ref (gad G o0)] T (QI G Q) := by
  refine mt_of G l0 (by decide) (Nat.le_of_ble_eq_true rfl) (fun X C E => ?_)
  show V G X T 0 [(0, .ref (gad G o0))] []
  unfold wp_X3_everybody at h
  refine v_iconst C dX3_everybody_0 ?_
  refine v_aload_n C 0 dX3_everybody_1 rfl ?_
  refine v_getI C kX3 0 ho0 rfl wd_117 rfl dX3_everybody_2 ?_
  refine v_ishl C dX3_everybody_5 ?_
  refine v_iconst C dX3_everybody_6 ?_
  refine v_isub C dX3_everybody_7 ?_
  exact v_iret C E dX3_everybody_8 h
def wp_X3_hasPeople (o0 : Nat) (v1 : Int) (T : TH) (Q : Bool → TH → Prop) : Prop :=
  wp_X3_everybody o0 T (fun r2 T1 => zR (zand v1 (zxor r2 (-1))) ∧ (¬ (zand v1 (zxor r2 (-1))) = 0 → (Q false T1)) ∧ ((zand v1 (zxor r2 (-1))) = 0 → (Q true T1)))
set_option maxRecDepth 100000 in
theorem s_X3_hasPeople (G : GT) (l0 : Launch) {o0 : Nat} {v1 : Int} {T : TH} {Q : Bool → TH → Prop} (ho0 : clsO o0 = 3) (h : wp_X3_hasPeople o0 v1 T Q) : MT G l0 yX3_hasPeople cX3_hasPeople 2 (some .boolean) 1 20 [.ref (gad G o0), .int (zI v1)] T (QZ G Q) := by
  refine mt_of G l0 (by decide) (Nat.le_of_ble_eq_true rfl) (fun X C E => ?_)
  show V G X T 0 [(0, .ref (gad G o0)), (1, .int (zI v1))] []
  unfold wp_X3_hasPeople at h
  refine v_iload_n C 1 dX3_hasPeople_0 rfl ?_
  refine v_aload_n C 0 dX3_hasPeople_1 rfl ?_
  refine v_cVI C kX3 ho0 (s_X3_everybody G l0 ho0 h) mv_X3_everybody wd_631 ⟨by decide, by decide⟩ rfl rfl (Nat.le_of_ble_eq_true rfl) dX3_hasPeople_2 (fun r2 T1 h => ?_)
  refine v_iconst C dX3_hasPeople_5 ?_
  refine v_ixor C dX3_hasPeople_6 ?_
  refine v_iand C dX3_hasPeople_7 ?_
  obtain ⟨e1, e2, e3⟩ := h
  refine v_if_ne (tgt := 15) C dX3_hasPeople_8 (by decide) e1 (fun e4 => ?_) (fun e4 => ?_)
  · have h := e2 e4
    refine v_iconst C dX3_hasPeople_15 ?_
    exact v_zret (z := false) C E dX3_hasPeople_16 h
  · have h := e3 e4
    refine v_iconst C dX3_hasPeople_11 ?_
    refine v_goto (tgt := 16) C dX3_hasPeople_12 (by decide) ?_
    exact v_zret (z := true) C E dX3_hasPeople_16 h
def wp_X3_hasFact (o0 : Nat) (v1 : Int) (T : TH) (Q : Bool → TH → Prop) : Prop :=
  zR v1 ∧ (v1 < 0 → (Q false T)) ∧ (¬ (v1 < 0) → (zR v1 ∧ zR (T o0 1 0) ∧ ((T o0 1 0) ≤ v1 → (Q false T)) ∧ (¬ ((T o0 1 0) ≤ v1) → (Q true T))))
set_option maxRecDepth 100000 in
theorem s_X3_hasFact (G : GT) (l0 : Launch) {o0 : Nat} {v1 : Int} {T : TH} {Q : Bool → TH → Prop} (ho0 : clsO o0 = 3) (h : wp_X3_hasFact o0 v1 T Q) : MT G l0 yX3_hasFact cX3_hasFact 2 (some .boolean) 0 0 [.ref (gad G o0), .int (zI v1)] T (QZ G Q) := by
  refine mt_of G l0 (by decide) (Nat.le_of_ble_eq_true rfl) (fun X C E => ?_)
  show V G X T 0 [(0, .ref (gad G o0)), (1, .int (zI v1))] []
  unfold wp_X3_hasFact at h
  refine v_iload_n C 1 dX3_hasFact_0 rfl ?_
  obtain ⟨e1, e2, e3⟩ := h
  refine v_if_lt (tgt := 16) C dX3_hasFact_1 (by decide) e1 (fun e4 => ?_) (fun e4 => ?_)
  · have h := e2 e4
    refine v_iconst C dX3_hasFact_16 ?_
    exact v_zret (z := false) C E dX3_hasFact_17 h
  · have h := e3 e4
    refine v_iload_n C 1 dX3_hasFact_4 rfl ?_
    refine v_aload_n C 0 dX3_hasFact_5 rfl ?_
    refine v_getI C kX3 1 ho0 rfl wd_123 rfl dX3_hasFact_6 ?_
    obtain ⟨e5, e6, e7, e8⟩ := h
    refine v_icmp_ge (tgt := 16) C dX3_hasFact_9 (by decide) e5 e6 (fun e9 => ?_) (fun e9 => ?_)
    · have h := e7 e9
      refine v_iconst C dX3_hasFact_16 ?_
      exact v_zret (z := false) C E dX3_hasFact_17 h
    · have h := e8 e9
      refine v_iconst C dX3_hasFact_12 ?_
      refine v_goto (tgt := 17) C dX3_hasFact_13 (by decide) ?_
      exact v_zret (z := true) C E dX3_hasFact_17 h
def b_X3_hasFactOrNone_13 (o0 : Nat) (v1 : Int) (Q : Bool → TH → Prop) (T : TH) : Prop :=
  Q true T
def wp_X3_hasFactOrNone (o0 : Nat) (v1 : Int) (T : TH) (Q : Bool → TH → Prop) : Prop :=
  zR v1 ∧ (v1 = (-1) → (b_X3_hasFactOrNone_13 o0 v1 Q T)) ∧ (¬ (v1 = (-1)) → (wp_X3_hasFact o0 v1 T (fun p2 T1 => (p2 = false → (Q false T1)) ∧ (p2 = true → (b_X3_hasFactOrNone_13 o0 v1 Q T1)))))
set_option maxRecDepth 100000 in
theorem t_X3_hasFactOrNone_13 {G : GT} {l0 : Launch} {X : CX} (C : CT G l0 X cX3_hasFactOrNone 2 RX3 (rM 1 21)) {Q : Bool → TH → Prop} (E : EN G X (some .boolean) (QZ G Q)) {o0 : Nat} {v1 : Int} (ho0 : clsO o0 = 3) {T : TH} (h : b_X3_hasFactOrNone_13 o0 v1 Q T) : V G X T 13 [(0, .ref (gad G o0)), (1, .int (zI v1))] [] := by
  unfold b_X3_hasFactOrNone_13 at h
  refine v_iconst C dX3_hasFactOrNone_13 ?_
  refine v_goto (tgt := 18) C dX3_hasFactOrNone_14 (by decide) ?_
  exact v_zret (z := true) C E dX3_hasFactOrNone_18 h
set_option maxRecDepth 100000 in
theorem s_X3_hasFactOrNone (G : GT) (l0 : Launch) {o0 : Nat} {v1 : Int} {T : TH} {Q : Bool → TH → Prop} (ho0 : clsO o0 = 3) (h : wp_X3_hasFactOrNone o0 v1 T Q) : MT G l0 yX3_hasFactOrNone cX3_hasFactOrNone 2 (some .boolean) 1 21 [.ref (gad G o0), .int (zI v1)] T (QZ G Q) := by
  refine mt_of G l0 (by decide) (Nat.le_of_ble_eq_true rfl) (fun X C E => ?_)
  show V G X T 0 [(0, .ref (gad G o0)), (1, .int (zI v1))] []
  unfold wp_X3_hasFactOrNone at h
  refine v_iload_n C 1 dX3_hasFactOrNone_0 rfl ?_
  refine v_iconst C dX3_hasFactOrNone_1 ?_
  obtain ⟨e1, e2, e3⟩ := h
  refine v_icmp_eq (tgt := 13) C dX3_hasFactOrNone_2 (by decide) e1 ⟨by decide, by decide⟩ (fun e4 => ?_) (fun e4 => ?_)
  · have h := e2 e4
    exact v_sub [0, 1] rfl (t_X3_hasFactOrNone_13 C E ho0 h)
  · have h := e3 e4
    refine v_aload_n C 0 dX3_hasFactOrNone_5 rfl ?_
    refine v_iload_n C 1 dX3_hasFactOrNone_6 rfl ?_
    refine v_cVZ C kX3 ho0 (s_X3_hasFact G l0 ho0 h) mv_X3_hasFact wd_636 ⟨by decide, by decide⟩ rfl rfl (Nat.le_of_ble_eq_true rfl) dX3_hasFactOrNone_7 (fun p2 T1 h => ?_)
    obtain ⟨e5, e6⟩ := h
    refine v_ifz_eq (tgt := 17) C dX3_hasFactOrNone_10 (by decide) (fun e7 => ?_) (fun e7 => ?_)
    · have h := e5 e7
      refine v_iconst C dX3_hasFactOrNone_17 ?_
      exact v_zret (z := false) C E dX3_hasFactOrNone_18 h
    · have h := e6 e7
      exact v_sub [0, 1] rfl (t_X3_hasFactOrNone_13 C E ho0 h)
def wp_X3_hasBridge (o0 : Nat) (v1 : Int) (T : TH) (Q : Bool → TH → Prop) : Prop :=
  zR v1 ∧ (v1 < 0 → (Q false T)) ∧ (¬ (v1 < 0) → (zR v1 ∧ zR (T o0 3 0) ∧ ((T o0 3 0) ≤ v1 → (Q false T)) ∧ (¬ ((T o0 3 0) ≤ v1) → (Q true T))))
set_option maxRecDepth 100000 in
theorem s_X3_hasBridge (G : GT) (l0 : Launch) {o0 : Nat} {v1 : Int} {T : TH} {Q : Bool → TH → Prop} (ho0 : clsO o0 = 3) (h : wp_X3_hasBridge o0 v1 T Q) : MT G l0 yX3_hasBridge cX3_hasBridge 2 (some .boolean) 0 0 [.ref (gad G o0), .int (zI v1)] T (QZ G Q) := by
  refine mt_of G l0 (by decide) (Nat.le_of_ble_eq_true rfl) (fun X C E => ?_)
  show V G X T 0 [(0, .ref (gad G o0)), (1, .int (zI v1))] []
  unfold wp_X3_hasBridge at h
  refine v_iload_n C 1 dX3_hasBridge_0 rfl ?_
  obtain ⟨e1, e2, e3⟩ := h
  refine v_if_lt (tgt := 16) C dX3_hasBridge_1 (by decide) e1 (fun e4 => ?_) (fun e4 => ?_)
  · have h := e2 e4
    refine v_iconst C dX3_hasBridge_16 ?_
    exact v_zret (z := false) C E dX3_hasBridge_17 h
  · have h := e3 e4
    refine v_iload_n C 1 dX3_hasBridge_4 rfl ?_
    refine v_aload_n C 0 dX3_hasBridge_5 rfl ?_
    refine v_getI C kX3 3 ho0 rfl wd_133 rfl dX3_hasBridge_6 ?_
    obtain ⟨e5, e6, e7, e8⟩ := h
    refine v_icmp_ge (tgt := 16) C dX3_hasBridge_9 (by decide) e5 e6 (fun e9 => ?_) (fun e9 => ?_)
    · have h := e7 e9
      refine v_iconst C dX3_hasBridge_16 ?_
      exact v_zret (z := false) C E dX3_hasBridge_17 h
    · have h := e8 e9
      refine v_iconst C dX3_hasBridge_12 ?_
      refine v_goto (tgt := 17) C dX3_hasBridge_13 (by decide) ?_
      exact v_zret (z := true) C E dX3_hasBridge_17 h
def wp_X3_addFact (o0 : Nat) (v1 : Int) (v2 : Int) (v3 : Int) (T : TH) (Q : TH → Prop) : Prop :=
  0 ≤ (T o0 1 0) ∧ (T o0 1 0) < 8 ∧ ∀ T1 : TH, T1 = up T o0 8 (T o0 1 0) v1 → 0 ≤ (T1 o0 1 0) ∧ (T1 o0 1 0) < 8 ∧ ∀ T2 : TH, T2 = up T1 o0 9 (T1 o0 1 0) v2 → 0 ≤ v1 ∧ v1 < 7 ∧ 0 ≤ v1 ∧ v1 < 7 ∧ ∀ T3 : TH, T3 = up T2 o0 11 v1 (zor (T2 o0 11 v1) (zshl 1 (T2 o0 1 0))) → ∀ T4 : TH, T4 = up T3 o0 6 0 (zor (T3 o0 6 0) (zshl v3 (T3 o0 1 0))) → ∀ T5 : TH, T5 = up T4 o0 1 0 ((T4 o0 1 0) + 1) → Q T5
set_option maxRecDepth 100000 in
theorem s_X3_addFact (G : GT) (l0 : Launch) {o0 : Nat} {v1 : Int} {v2 : Int} {v3 : Int} {T : TH} {Q : TH → Prop} (ho0 : clsO o0 = 3) (h : wp_X3_addFact o0 v1 v2 v3 T Q) : MT G l0 yX3_addFact cX3_addFact 4 none 0 0 [.ref (gad G o0), .int (zI v1), .int (zI v2), .int (zI v3)] T (QV G Q) := by
  refine mt_of G l0 (by decide) (Nat.le_of_ble_eq_true rfl) (fun X C E => ?_)
  show V G X T 0 [(0, .ref (gad G o0)), (1, .int (zI v1)), (2, .int (zI v2)), (3, .int (zI v3))] []
  unfold wp_X3_addFact at h
  refine v_aload_n C 0 dX3_addFact_0 rfl ?_
  refine v_getA C kX3 8 ho0 rfl wd_149 rfl dX3_addFact_1 ?_
  refine v_aload_n C 0 dX3_addFact_4 rfl ?_
  refine v_getI C kX3 1 ho0 rfl wd_123 rfl dX3_addFact_5 ?_
  refine v_iload_n C 1 dX3_addFact_8 rfl ?_
  obtain ⟨e1, e2, h⟩ := h
  refine v_iast C (ar_of ho0 ar_3_8) dX3_addFact_9 e1 e2 ?_
  have h := h _ rfl
  refine v_aload_n C 0 dX3_addFact_10 rfl ?_
  refine v_getA C kX3 9 ho0 rfl wd_153 rfl dX3_addFact_11 ?_
  refine v_aload_n C 0 dX3_addFact_14 rfl ?_
  refine v_getI C kX3 1 ho0 rfl wd_123 rfl dX3_addFact_15 ?_
  refine v_iload_n C 2 dX3_addFact_18 rfl ?_
  obtain ⟨e3, e4, h⟩ := h
  refine v_iast C (ar_of ho0 ar_3_9) dX3_addFact_19 e3 e4 ?_
  have h := h _ rfl
  refine v_aload_n C 0 dX3_addFact_20 rfl ?_
  refine v_getA C kX3 11 ho0 rfl wd_161 rfl dX3_addFact_21 ?_
  refine v_iload_n C 1 dX3_addFact_24 rfl ?_
  refine v_dup2 C dX3_addFact_25 rfl rfl ?_
  obtain ⟨e5, e6, h⟩ := h
  refine v_iald C (ar_of ho0 ar_3_11) dX3_addFact_26 e5 e6 ?_
  refine v_iconst C dX3_addFact_27 ?_
  refine v_aload_n C 0 dX3_addFact_28 rfl ?_
  refine v_getI C kX3 1 ho0 rfl wd_123 rfl dX3_addFact_29 ?_
  refine v_ishl C dX3_addFact_32 ?_
  refine v_ior C dX3_addFact_33 ?_
  obtain ⟨e7, e8, h⟩ := h
  refine v_iast C (ar_of ho0 ar_3_11) dX3_addFact_34 e7 e8 ?_
  have h := h _ rfl
  refine v_aload_n C 0 dX3_addFact_35 rfl ?_
  refine v_dup C dX3_addFact_36 rfl ?_
  refine v_getI C kX3 6 ho0 rfl wd_144 rfl dX3_addFact_37 ?_
  refine v_iload_n C 3 dX3_addFact_40 rfl ?_
  refine v_aload_n C 0 dX3_addFact_41 rfl ?_
  refine v_getI C kX3 1 ho0 rfl wd_123 rfl dX3_addFact_42 ?_
  refine v_ishl C dX3_addFact_45 ?_
  refine v_ior C dX3_addFact_46 ?_
  refine v_putI C kX3 6 ho0 rfl wd_144 rfl rfl (tyX3_ok 6 (by decide)) dX3_addFact_47 ?_
  have h := h _ rfl
  refine v_aload_n C 0 dX3_addFact_50 rfl ?_
  refine v_dup C dX3_addFact_51 rfl ?_
  refine v_getI C kX3 1 ho0 rfl wd_123 rfl dX3_addFact_52 ?_
  refine v_iconst C dX3_addFact_55 ?_
  refine v_iadd C dX3_addFact_56 ?_
  refine v_putI C kX3 1 ho0 rfl wd_123 rfl rfl (tyX3_ok 1 (by decide)) dX3_addFact_57 ?_
  have h := h _ rfl
  exact v_vret C E dX3_addFact_60 h
def wp_X3_addFriendship (o0 : Nat) (v1 : Int) (v2 : Int) (T : TH) (Q : TH → Prop) : Prop :=
  0 ≤ (T o0 2 0) ∧ (T o0 2 0) < 12 ∧ ∀ T1 : TH, T1 = up T o0 13 (T o0 2 0) v1 → 0 ≤ (T1 o0 2 0) ∧ (T1 o0 2 0) < 12 ∧ ∀ T2 : TH, T2 = up T1 o0 14 (T1 o0 2 0) v2 → 0 ≤ v1 ∧ v1 < 7 ∧ 0 ≤ v1 ∧ v1 < 7 ∧ ∀ T3 : TH, T3 = up T2 o0 12 v1 (zor (T2 o0 12 v1) (zshl 1 v2)) → 0 ≤ v2 ∧ v2 < 7 ∧ 0 ≤ v2 ∧ v2 < 7 ∧ ∀ T4 : TH, T4 = up T3 o0 12 v2 (zor (T3 o0 12 v2) (zshl 1 v1)) → ∀ T5 : TH, T5 = up T4 o0 2 0 ((T4 o0 2 0) + 1) → Q T5
set_option maxRecDepth 100000 in
theorem s_X3_addFriendship (G : GT) (l0 : Launch) {o0 : Nat} {v1 : Int} {v2 : Int} {T : TH} {Q : TH → Prop} (ho0 : clsO o0 = 3) (h : wp_X3_addFriendship o0 v1 v2 T Q) : MT G l0 yX3_addFriendship cX3_addFriendship 3 none 0 0 [.ref (gad G o0), .int (zI v1), .int (zI v2)] T (QV G Q) := by
  refine mt_of G l0 (by decide) (Nat.le_of_ble_eq_true rfl) (fun X C E => ?_)
  show V G X T 0 [(0, .ref (gad G o0)), (1, .int (zI v1)), (2, .int (zI v2))] []
  unfold wp_X3_addFriendship at h
  refine v_aload_n C 0 dX3_addFriendship_0 rfl ?_
  refine v_getA C kX3 13 ho0 rfl wd_169 rfl dX3_addFriendship_1 ?_
  refine v_aload_n C 0 dX3_addFriendship_4 rfl ?_
  refine v_getI C kX3 2 ho0 rfl wd_130 rfl dX3_addFriendship_5 ?_
  refine v_iload_n C 1 dX3_addFriendship_8 rfl ?_
  obtain ⟨e1, e2, h⟩ := h
  refine v_iast C (ar_of ho0 ar_3_13) dX3_addFriendship_9 e1 e2 ?_
  have h := h _ rfl
  refine v_aload_n C 0 dX3_addFriendship_10 rfl ?_
  refine v_getA C kX3 14 ho0 rfl wd_170 rfl dX3_addFriendship_11 ?_
  refine v_aload_n C 0 dX3_addFriendship_14 rfl ?_
  refine v_getI C kX3 2 ho0 rfl wd_130 rfl dX3_addFriendship_15 ?_
  refine v_iload_n C 2 dX3_addFriendship_18 rfl ?_
  obtain ⟨e3, e4, h⟩ := h
  refine v_iast C (ar_of ho0 ar_3_14) dX3_addFriendship_19 e3 e4 ?_
  have h := h _ rfl
  refine v_aload_n C 0 dX3_addFriendship_20 rfl ?_
  refine v_getA C kX3 12 ho0 rfl wd_165 rfl dX3_addFriendship_21 ?_
  refine v_iload_n C 1 dX3_addFriendship_24 rfl ?_
  refine v_dup2 C dX3_addFriendship_25 rfl rfl ?_
  obtain ⟨e5, e6, h⟩ := h
  refine v_iald C (ar_of ho0 ar_3_12) dX3_addFriendship_26 e5 e6 ?_
  refine v_iconst C dX3_addFriendship_27 ?_
  refine v_iload_n C 2 dX3_addFriendship_28 rfl ?_
  refine v_ishl C dX3_addFriendship_29 ?_
  refine v_ior C dX3_addFriendship_30 ?_
  obtain ⟨e7, e8, h⟩ := h
  refine v_iast C (ar_of ho0 ar_3_12) dX3_addFriendship_31 e7 e8 ?_
  have h := h _ rfl
  refine v_aload_n C 0 dX3_addFriendship_32 rfl ?_
  refine v_getA C kX3 12 ho0 rfl wd_165 rfl dX3_addFriendship_33 ?_
  refine v_iload_n C 2 dX3_addFriendship_36 rfl ?_
  refine v_dup2 C dX3_addFriendship_37 rfl rfl ?_
  obtain ⟨e9, e10, h⟩ := h
  refine v_iald C (ar_of ho0 ar_3_12) dX3_addFriendship_38 e9 e10 ?_
  refine v_iconst C dX3_addFriendship_39 ?_
  refine v_iload_n C 1 dX3_addFriendship_40 rfl ?_
  refine v_ishl C dX3_addFriendship_41 ?_
  refine v_ior C dX3_addFriendship_42 ?_
  obtain ⟨e11, e12, h⟩ := h
  refine v_iast C (ar_of ho0 ar_3_12) dX3_addFriendship_43 e11 e12 ?_
  have h := h _ rfl
  refine v_aload_n C 0 dX3_addFriendship_44 rfl ?_
  refine v_dup C dX3_addFriendship_45 rfl ?_
  refine v_getI C kX3 2 ho0 rfl wd_130 rfl dX3_addFriendship_46 ?_
  refine v_iconst C dX3_addFriendship_49 ?_
  refine v_iadd C dX3_addFriendship_50 ?_
  refine v_putI C kX3 2 ho0 rfl wd_130 rfl rfl (tyX3_ok 2 (by decide)) dX3_addFriendship_51 ?_
  have h := h _ rfl
  exact v_vret C E dX3_addFriendship_54 h
def b_X3_waysOut_108 (o0 : Nat) (v1 : Int) (Q : Int → TH → Prop) (K14 : Int → Int → Int → TH → Prop) (v2 : Int) (v3 : Int) (v4 : Int) (T : TH) : Prop :=
  K14 v2 v3 (v4 + 1) T
def b_X3_waysOut_101 (o0 : Nat) (v1 : Int) (Q : Int → TH → Prop) (K14 : Int → Int → Int → TH → Prop) (v2 : Int) (v3 : Int) (v4 : Int) (T : TH) : Prop :=
  ∀ w1 : Int, w1 = (zor v3 (zshl 1 v4)) → b_X3_waysOut_108 o0 v1 Q K14 v2 w1 v4 T
def b_X3_waysOut_89 (o0 : Nat) (v1 : Int) (Q : Int → TH → Prop) (K14 : Int → Int → Int → TH → Prop) (v2 : Int) (v3 : Int) (v4 : Int) (z7 : Bool) (y0 : Bool) (T : TH) : Prop :=
  (z7 = true → (b_X3_waysOut_101 o0 v1 Q K14 v2 v3 v4 T)) ∧ (z7 = false → ((y0 = false → (b_X3_waysOut_108 o0 v1 Q K14 v2 v3 v4 T)) ∧ (y0 = true → (b_X3_waysOut_101 o0 v1 Q K14 v2 v3 v4 T))))
def b_X3_waysOut_88 (o0 : Nat) (v1 : Int) (Q : Int → TH → Prop) (K14 : Int → Int → Int → TH → Prop) (v2 : Int) (v3 : Int) (v4 : Int) (z7 : Bool) (T : TH) : Prop :=
  b_X3_waysOut_89 o0 v1 Q K14 v2 v3 v4 z7 false T
def b_X3_waysOut_64 (o0 : Nat) (v1 : Int) (Q : Int → TH → Prop) (K14 : Int → Int → Int → TH → Prop) (v2 : Int) (v3 : Int) (v4 : Int) (v5 : Int) (v6 : Int) (y0 : Bool) (T : TH) : Prop :=
  zR (zand (zshr v2 v6) 1) ∧ ((zand (zshr v2 v6) 1) = 0 → (b_X3_waysOut_88 o0 v1 Q K14 v2 v3 v4 y0 T)) ∧ (¬ ((zand (zshr v2 v6) 1) = 0) → (zR (zand (zshr v1 v5) 1) ∧ (¬ (zand (zshr v1 v5) 1) = 0 → (b_X3_waysOut_88 o0 v1 Q K14 v2 v3 v4 y0 T)) ∧ ((zand (zshr v1 v5) 1) = 0 → (b_X3_waysOut_89 o0 v1 Q K14 v2 v3 v4 y0 true T))))
def b_X3_waysOut_63 (o0 : Nat) (v1 : Int) (Q : Int → TH → Prop) (K14 : Int → Int → Int → TH → Prop) (v2 : Int) (v3 : Int) (v4 : Int) (v5 : Int) (v6 : Int) (T : TH) : Prop :=
  b_X3_waysOut_64 o0 v1 Q K14 v2 v3 v4 v5 v6 false T
def h_X3_waysOut_14 (o0 : Nat) (v1 : Int) (Q : Int → TH → Prop) : Nat → Int → Int → Int → TH → Prop
  | 0, _, _, _, _ => False
  | n + 1, v2, v3, v4, T => zR v4 ∧ zR (T o0 2 0) ∧ ((T o0 2 0) ≤ v4 → (Q v3 T)) ∧ (¬ ((T o0 2 0) ≤ v4) → (0 ≤ v4 ∧ v4 < 12 ∧ ∀ w1 : Int, w1 = (T o0 13 v4) → 0 ≤ v4 ∧ v4 < 12 ∧ ∀ w2 : Int, w2 = (T o0 14 v4) → zR (zand (zshr v2 w1) 1) ∧ ((zand (zshr v2 w1) 1) = 0 → (b_X3_waysOut_63 o0 v1 Q (h_X3_waysOut_14 o0 v1 Q n) v2 v3 v4 w1 w2 T)) ∧ (¬ ((zand (zshr v2 w1) 1) = 0) → (zR (zand (zshr v1 w2) 1) ∧ (¬ (zand (zshr v1 w2) 1) = 0 → (b_X3_waysOut_63 o0 v1 Q (h_X3_waysOut_14 o0 v1 Q n) v2 v3 v4 w1 w2 T)) ∧ ((zand (zshr v1 w2) 1) = 0 → (b_X3_waysOut_64 o0 v1 Q (h_X3_waysOut_14 o0 v1 Q n) v2 v3 v4 w1 w2 true T))))))
def wp_X3_waysOut (o0 : Nat) (v1 : Int) (T : TH) (Q : Int → TH → Prop) : Prop :=
  ∀ w1 : Int, w1 = (zand v1 (zxor (T o0 5 0) (-1))) → (∃ m9 : Nat, h_X3_waysOut_14 o0 v1 Q m9 w1 0 0 T)
set_option maxRecDepth 100000 in
theorem t_X3_waysOut_108 {G : GT} {l0 : Launch} {X : CX} (C : CT G l0 X cX3_waysOut 9 RX3 (rM 0 0)) {Q : Int → TH → Prop} (E : EN G X (some .int) (QI G Q)) {o0 : Nat} {v1 : Int} (ho0 : clsO o0 = 3) {K14 : Int → Int → Int → TH → Prop} (k14 : ∀ (v2 : Int) (v3 : Int) (v4 : Int) (T : TH), K14 v2 v3 v4 T → V G X T 14 [(0, .ref (gad G o0)), (1, .int (zI v1)), (2, .int (zI v2)), (3, .int (zI v3)), (4, .int (zI v4))] []) {v2 : Int} {v3 : Int} {v4 : Int} {T : TH} (h : b_X3_waysOut_108 o0 v1 Q K14 v2 v3 v4 T) : V G X T 108 [(0, .ref (gad G o0)), (1, .int (zI v1)), (2, .int (zI v2)), (3, .int (zI v3)), (4, .int (zI v4))] [] := by
  unfold b_X3_waysOut_108 at h
  refine v_iinc C 4 dX3_waysOut_108 rfl (by decide) ?_
  refine v_goto (tgt := 14) C dX3_waysOut_111 (by decide) ?_
  exact v_sub [1, 2, 3, 4, 0] rfl (k14 _ _ _ _ h)
set_option maxRecDepth 100000 in
theorem t_X3_waysOut_101 {G : GT} {l0 : Launch} {X : CX} (C : CT G l0 X cX3_waysOut 9 RX3 (rM 0 0)) {Q : Int → TH → Prop} (E : EN G X (some .int) (QI G Q)) {o0 : Nat} {v1 : Int} (ho0 : clsO o0 = 3) {K14 : Int → Int → Int → TH → Prop} (k14 : ∀ (v2 : Int) (v3 : Int) (v4 : Int) (T : TH), K14 v2 v3 v4 T → V G X T 14 [(0, .ref (gad G o0)), (1, .int (zI v1)), (2, .int (zI v2)), (3, .int (zI v3)), (4, .int (zI v4))] []) {v2 : Int} {v3 : Int} {v4 : Int} {T : TH} (h : b_X3_waysOut_101 o0 v1 Q K14 v2 v3 v4 T) : V G X T 101 [(0, .ref (gad G o0)), (1, .int (zI v1)), (2, .int (zI v2)), (3, .int (zI v3)), (4, .int (zI v4))] [] := by
  unfold b_X3_waysOut_101 at h
  refine v_iload_n C 3 dX3_waysOut_101 rfl ?_
  refine v_iconst C dX3_waysOut_102 ?_
  refine v_iload C 4 dX3_waysOut_103 rfl ?_
  refine v_ishl C dX3_waysOut_105 ?_
  refine v_ior C dX3_waysOut_106 ?_
  refine v_istore_n C dX3_waysOut_107 rfl (by decide) ?_
  have h := h _ rfl
  exact v_sub [1, 2, 3, 0, 4] rfl (t_X3_waysOut_108 C E ho0 k14 h)
set_option maxRecDepth 100000 in
theorem t_X3_waysOut_89 {G : GT} {l0 : Launch} {X : CX} (C : CT G l0 X cX3_waysOut 9 RX3 (rM 0 0)) {Q : Int → TH → Prop} (E : EN G X (some .int) (QI G Q)) {o0 : Nat} {v1 : Int} (ho0 : clsO o0 = 3) {K14 : Int → Int → Int → TH → Prop} (k14 : ∀ (v2 : Int) (v3 : Int) (v4 : Int) (T : TH), K14 v2 v3 v4 T → V G X T 14 [(0, .ref (gad G o0)), (1, .int (zI v1)), (2, .int (zI v2)), (3, .int (zI v3)), (4, .int (zI v4))] []) {v2 : Int} {v3 : Int} {v4 : Int} {z7 : Bool} {y0 : Bool} {T : TH} (h : b_X3_waysOut_89 o0 v1 Q K14 v2 v3 v4 z7 y0 T) : V G X T 89 [(0, .ref (gad G o0)), (1, .int (zI v1)), (2, .int (zI v2)), (3, .int (zI v3)), (4, .int (zI v4)), (7, .int (zI (zi z7)))] [.int (zI (zi y0))] := by
  unfold b_X3_waysOut_89 at h
  refine v_istore C dX3_waysOut_89 (by decide) ?_
  refine v_iload C 6 dX3_waysOut_91 rfl ?_
  obtain ⟨e1, e2⟩ := h
  refine v_ifz_ne (tgt := 101) C dX3_waysOut_93 (by decide) (fun e3 => ?_) (fun e3 => ?_)
  · have h := e1 e3
    exact v_sub [1, 2, 3, 4, 5] rfl (t_X3_waysOut_101 C E ho0 k14 h)
  · have h := e2 e3
    refine v_iload C 0 dX3_waysOut_96 rfl ?_
    obtain ⟨e4, e5⟩ := h
    refine v_ifz_eq (tgt := 108) C dX3_waysOut_98 (by decide) (fun e6 => ?_) (fun e6 => ?_)
    · have h := e4 e6
      exact v_sub [1, 2, 3, 4, 5] rfl (t_X3_waysOut_108 C E ho0 k14 h)
    · have h := e5 e6
      exact v_sub [1, 2, 3, 4, 5] rfl (t_X3_waysOut_101 C E ho0 k14 h)
set_option maxRecDepth 100000 in
theorem t_X3_waysOut_88 {G : GT} {l0 : Launch} {X : CX} (C : CT G l0 X cX3_waysOut 9 RX3 (rM 0 0)) {Q : Int → TH → Prop} (E : EN G X (some .int) (QI G Q)) {o0 : Nat} {v1 : Int} (ho0 : clsO o0 = 3) {K14 : Int → Int → Int → TH → Prop} (k14 : ∀ (v2 : Int) (v3 : Int) (v4 : Int) (T : TH), K14 v2 v3 v4 T → V G X T 14 [(0, .ref (gad G o0)), (1, .int (zI v1)), (2, .int (zI v2)), (3, .int (zI v3)), (4, .int (zI v4))] []) {v2 : Int} {v3 : Int} {v4 : Int} {z7 : Bool} {T : TH} (h : b_X3_waysOut_88 o0 v1 Q K14 v2 v3 v4 z7 T) : V G X T 88 [(0, .ref (gad G o0)), (1, .int (zI v1)), (2, .int (zI v2)), (3, .int (zI v3)), (4, .int (zI v4)), (7, .int (zI (zi z7)))] [] := by
  unfold b_X3_waysOut_88 at h
  refine v_iconst C dX3_waysOut_88 ?_
  exact v_sub [0, 1, 2, 3, 4, 5] rfl (t_X3_waysOut_89 C E ho0 k14 h)
set_option maxRecDepth 100000 in
theorem t_X3_waysOut_64 {G : GT} {l0 : Launch} {X : CX} (C : CT G l0 X cX3_waysOut 9 RX3 (rM 0 0)) {Q : Int → TH → Prop} (E : EN G X (some .int) (QI G Q)) {o0 : Nat} {v1 : Int} (ho0 : clsO o0 = 3) {K14 : Int → Int → Int → TH → Prop} (k14 : ∀ (v2 : Int) (v3 : Int) (v4 : Int) (T : TH), K14 v2 v3 v4 T → V G X T 14 [(0, .ref (gad G o0)), (1, .int (zI v1)), (2, .int (zI v2)), (3, .int (zI v3)), (4, .int (zI v4))] []) {v2 : Int} {v3 : Int} {v4 : Int} {v5 : Int} {v6 : Int} {y0 : Bool} {T : TH} (h : b_X3_waysOut_64 o0 v1 Q K14 v2 v3 v4 v5 v6 y0 T) : V G X T 64 [(0, .ref (gad G o0)), (1, .int (zI v1)), (2, .int (zI v2)), (3, .int (zI v3)), (4, .int (zI v4)), (5, .int (zI v5)), (6, .int (zI v6))] [.int (zI (zi y0))] := by
  unfold b_X3_waysOut_64 at h
  refine v_istore C dX3_waysOut_64 (by decide) ?_
  refine v_iload_n C 3 dX3_waysOut_66 rfl ?_
  refine v_iload C 7 dX3_waysOut_67 rfl ?_
  refine v_ishr C dX3_waysOut_69 ?_
  refine v_iconst C dX3_waysOut_70 ?_
  refine v_iand C dX3_waysOut_71 ?_
  obtain ⟨e1, e2, e3⟩ := h
  refine v_if_eq (tgt := 88) C dX3_waysOut_72 (by decide) e1 (fun e4 => ?_) (fun e4 => ?_)
  · have h := e2 e4
    exact v_sub [1, 2, 3, 4, 5, 0] rfl (t_X3_waysOut_88 C E ho0 k14 h)
  · have h := e3 e4
    refine v_iload_n C 2 dX3_waysOut_75 rfl ?_
    refine v_iload C 6 dX3_waysOut_76 rfl ?_
    refine v_ishr C dX3_waysOut_78 ?_
    refine v_iconst C dX3_waysOut_79 ?_
    refine v_iand C dX3_waysOut_80 ?_
    obtain ⟨e5, e6, e7⟩ := h
    refine v_if_ne (tgt := 88) C dX3_waysOut_81 (by decide) e5 (fun e8 => ?_) (fun e8 => ?_)
    · have h := e6 e8
      exact v_sub [1, 2, 3, 4, 5, 0] rfl (t_X3_waysOut_88 C E ho0 k14 h)
    · have h := e7 e8
      refine v_iconst C dX3_waysOut_84 ?_
      refine v_goto (tgt := 89) C dX3_waysOut_85 (by decide) ?_
      exact v_sub [1, 2, 3, 4, 5, 0] rfl (t_X3_waysOut_89 C E ho0 k14 h)
set_option maxRecDepth 100000 in
theorem t_X3_waysOut_63 {G : GT} {l0 : Launch} {X : CX} (C : CT G l0 X cX3_waysOut 9 RX3 (rM 0 0)) {Q : Int → TH → Prop} (E : EN G X (some .int) (QI G Q)) {o0 : Nat} {v1 : Int} (ho0 : clsO o0 = 3) {K14 : Int → Int → Int → TH → Prop} (k14 : ∀ (v2 : Int) (v3 : Int) (v4 : Int) (T : TH), K14 v2 v3 v4 T → V G X T 14 [(0, .ref (gad G o0)), (1, .int (zI v1)), (2, .int (zI v2)), (3, .int (zI v3)), (4, .int (zI v4))] []) {v2 : Int} {v3 : Int} {v4 : Int} {v5 : Int} {v6 : Int} {T : TH} (h : b_X3_waysOut_63 o0 v1 Q K14 v2 v3 v4 v5 v6 T) : V G X T 63 [(0, .ref (gad G o0)), (1, .int (zI v1)), (2, .int (zI v2)), (3, .int (zI v3)), (4, .int (zI v4)), (5, .int (zI v5)), (6, .int (zI v6))] [] := by
  unfold b_X3_waysOut_63 at h
  refine v_iconst C dX3_waysOut_63 ?_
  exact v_sub [0, 1, 2, 3, 4, 5, 6] rfl (t_X3_waysOut_64 C E ho0 k14 h)
set_option maxRecDepth 100000 in
theorem t_X3_waysOut_14 {G : GT} {l0 : Launch} {X : CX} (C : CT G l0 X cX3_waysOut 9 RX3 (rM 0 0)) {Q : Int → TH → Prop} (E : EN G X (some .int) (QI G Q)) {o0 : Nat} {v1 : Int} (ho0 : clsO o0 = 3) : ∀ (n : Nat) (v2 : Int) (v3 : Int) (v4 : Int) (T : TH), h_X3_waysOut_14 o0 v1 Q n v2 v3 v4 T → V G X T 14 [(0, .ref (gad G o0)), (1, .int (zI v1)), (2, .int (zI v2)), (3, .int (zI v3)), (4, .int (zI v4))] [] := by
  intro n
  induction n with
  | zero =>
    intro v2 v3 v4 T h
    exact h.elim
  | succ n ih =>
    intro v2 v3 v4 T h
    rw [h_X3_waysOut_14] at h
    refine v_iload C 4 dX3_waysOut_14 rfl ?_
    refine v_aload_n C 0 dX3_waysOut_16 rfl ?_
    refine v_getI C kX3 2 ho0 rfl wd_130 rfl dX3_waysOut_17 ?_
    obtain ⟨e1, e2, e3, e4⟩ := h
    refine v_icmp_ge (tgt := 114) C dX3_waysOut_20 (by decide) e1 e2 (fun e5 => ?_) (fun e5 => ?_)
    · have h := e3 e5
      refine v_iload_n C 3 dX3_waysOut_114 rfl ?_
      exact v_iret C E dX3_waysOut_115 h
    · have h := e4 e5
      refine v_aload_n C 0 dX3_waysOut_23 rfl ?_
      refine v_getA C kX3 13 ho0 rfl wd_169 rfl dX3_waysOut_24 ?_
      refine v_iload C 4 dX3_waysOut_27 rfl ?_
      obtain ⟨e6, e7, h⟩ := h
      refine v_iald C (ar_of ho0 ar_3_13) dX3_waysOut_29 e6 e7 ?_
      refine v_istore C dX3_waysOut_30 (by decide) ?_
      have h := h _ rfl
      refine v_aload_n C 1 dX3_waysOut_32 rfl ?_
      refine v_getA C kX3 14 ho0 rfl wd_170 rfl dX3_waysOut_33 ?_
      refine v_iload C 5 dX3_waysOut_36 rfl ?_
      obtain ⟨e8, e9, h⟩ := h
      refine v_iald C (ar_of ho0 ar_3_14) dX3_waysOut_38 e8 e9 ?_
      refine v_istore C dX3_waysOut_39 (by decide) ?_
      have h := h _ rfl
      refine v_iload_n C 4 dX3_waysOut_41 rfl ?_
      refine v_iload C 1 dX3_waysOut_42 rfl ?_
      refine v_ishr C dX3_waysOut_44 ?_
      refine v_iconst C dX3_waysOut_45 ?_
      refine v_iand C dX3_waysOut_46 ?_
      obtain ⟨e10, e11, e12⟩ := h
      refine v_if_eq (tgt := 63) C dX3_waysOut_47 (by decide) e10 (fun e13 => ?_) (fun e13 => ?_)
      · have h := e11 e13
        exact v_sub [2, 3, 4, 5, 6, 1, 0] rfl (t_X3_waysOut_63 C E ho0 ih h)
      · have h := e12 e13
        refine v_iload_n C 3 dX3_waysOut_50 rfl ?_
        refine v_iload C 0 dX3_waysOut_51 rfl ?_
        refine v_ishr C dX3_waysOut_53 ?_
        refine v_iconst C dX3_waysOut_54 ?_
        refine v_iand C dX3_waysOut_55 ?_
        obtain ⟨e14, e15, e16⟩ := h
        refine v_if_ne (tgt := 63) C dX3_waysOut_56 (by decide) e14 (fun e17 => ?_) (fun e17 => ?_)
        · have h := e15 e17
          exact v_sub [2, 3, 4, 5, 6, 1, 0] rfl (t_X3_waysOut_63 C E ho0 ih h)
        · have h := e16 e17
          refine v_iconst C dX3_waysOut_59 ?_
          refine v_goto (tgt := 64) C dX3_waysOut_60 (by decide) ?_
          exact v_sub [2, 3, 4, 5, 6, 1, 0] rfl (t_X3_waysOut_64 C E ho0 ih h)
set_option maxRecDepth 100000 in
theorem s_X3_waysOut (G : GT) (l0 : Launch) {o0 : Nat} {v1 : Int} {T : TH} {Q : Int → TH → Prop} (ho0 : clsO o0 = 3) (h : wp_X3_waysOut o0 v1 T Q) : MT G l0 yX3_waysOut cX3_waysOut 9 (some .int) 0 0 [.ref (gad G o0), .int (zI v1)] T (QI G Q) := by
  refine mt_of G l0 (by decide) (Nat.le_of_ble_eq_true rfl) (fun X C E => ?_)
  show V G X T 0 [(0, .ref (gad G o0)), (1, .int (zI v1))] []
  unfold wp_X3_waysOut at h
  refine v_iload_n C 1 dX3_waysOut_0 rfl ?_
  refine v_aload_n C 0 dX3_waysOut_1 rfl ?_
  refine v_getI C kX3 5 ho0 rfl wd_140 rfl dX3_waysOut_2 ?_
  refine v_iconst C dX3_waysOut_5 ?_
  refine v_ixor C dX3_waysOut_6 ?_
  refine v_iand C dX3_waysOut_7 ?_
  refine v_istore_n C dX3_waysOut_8 rfl (by decide) ?_
  have h := h _ rfl
  refine v_iconst C dX3_waysOut_9 ?_
  refine v_istore_n C dX3_waysOut_10 rfl (by decide) ?_
  refine v_iconst C dX3_waysOut_11 ?_
  refine v_istore C dX3_waysOut_12 (by decide) ?_
  obtain ⟨n9, h⟩ := h
  exact v_sub [3, 4, 2, 1, 0] rfl (t_X3_waysOut_14 C E ho0 n9 _ _ _ _ h)
def wp_X4_add (v1 : Int) (T : TH) (Q : Int → TH → Prop) : Prop :=
  zR (T 1 1 0) ∧ ((T 1 1 0) < 250 → (0 ≤ (T 1 1 0) ∧ (T 1 1 0) < 250 ∧ ∀ T1 : TH, T1 = up T 1 0 (T 1 1 0) v1 → ∀ T2 : TH, T2 = up T1 1 1 0 ((T1 1 1 0) + 1) → Q (T2 1 1 0) T2)) ∧ (¬ ((T 1 1 0) < 250) → (Q (-1000000004) T))
set_option maxRecDepth 100000 in
theorem s_X4_add (G : GT) (l0 : Launch) {v1 : Int} {T : TH} {Q : Int → TH → Prop} (h : wp_X4_add v1 T Q) : MT G l0 yX4_add cX4_add 2 (some .int) 0 0 [.ref (gad G 1), .int (zI v1)] T (QI G Q) := by
  refine mt_of G l0 (by decide) (Nat.le_of_ble_eq_true rfl) (fun X C E => ?_)
  show V G X T 0 [(0, .ref (gad G 1)), (1, .int (zI v1))] []
  unfold wp_X4_add at h
  refine v_aload_n C 0 dX4_add_0 rfl ?_
  refine v_getI C kX4 1 rfl rfl wd_90 rfl dX4_add_1 ?_
  refine v_sipush C dX4_add_4 (by decide) ?_
  obtain ⟨e1, e2, e3⟩ := h
  refine v_icmp_lt (tgt := 13) C dX4_add_7 (by decide) e1 ⟨by decide, by decide⟩ (fun e4 => ?_) (fun e4 => ?_)
  · have h := e2 e4
    refine v_aload_n C 0 dX4_add_13 rfl ?_
    refine v_getA C kX4 0 rfl rfl wd_89 rfl dX4_add_14 ?_
    refine v_aload_n C 0 dX4_add_17 rfl ?_
    refine v_getI C kX4 1 rfl rfl wd_90 rfl dX4_add_18 ?_
    refine v_iload_n C 1 dX4_add_21 rfl ?_
    obtain ⟨e5, e6, h⟩ := h
    refine v_iast C (ar_of (o := 1) rfl ar_4_0) dX4_add_22 e5 e6 ?_
    have h := h _ rfl
    refine v_aload_n C 0 dX4_add_23 rfl ?_
    refine v_dup C dX4_add_24 rfl ?_
    refine v_getI C kX4 1 rfl rfl wd_90 rfl dX4_add_25 ?_
    refine v_iconst C dX4_add_28 ?_
    refine v_iadd C dX4_add_29 ?_
    refine v_putI C kX4 1 rfl rfl wd_90 rfl rfl (tyX4_ok 1 (by decide)) dX4_add_30 ?_
    have h := h _ rfl
    refine v_aload_n C 0 dX4_add_33 rfl ?_
    refine v_getI C kX4 1 rfl rfl wd_90 rfl dX4_add_34 ?_
    exact v_iret C E dX4_add_37 h
  · have h := e3 e4
    refine v_ldc (n := -1000000004) C dX4_add_10 wd_363 (by decide) ?_
    exact v_iret C E dX4_add_12 h
def wp_X4_blame (v1 : Int) (v2 : Int) (T : TH) (Q : TH → Prop) : Prop :=
  zR (T 1 3 0) ∧ (¬ (T 1 3 0) = 0 → (Q T)) ∧ ((T 1 3 0) = 0 → (∀ T1 : TH, T1 = up T 1 3 0 v1 → ∀ T2 : TH, T2 = up T1 1 2 0 v2 → Q T2))
set_option maxRecDepth 100000 in
theorem s_X4_blame (G : GT) (l0 : Launch) {v1 : Int} {v2 : Int} {T : TH} {Q : TH → Prop} (h : wp_X4_blame v1 v2 T Q) : MT G l0 yX4_blame cX4_blame 3 none 0 0 [.ref (gad G 1), .int (zI v1), .int (zI v2)] T (QV G Q) := by
  refine mt_of G l0 (by decide) (Nat.le_of_ble_eq_true rfl) (fun X C E => ?_)
  show V G X T 0 [(0, .ref (gad G 1)), (1, .int (zI v1)), (2, .int (zI v2))] []
  unfold wp_X4_blame at h
  refine v_aload_n C 0 dX4_blame_0 rfl ?_
  refine v_getI C kX4 3 rfl rfl wd_94 rfl dX4_blame_1 ?_
  obtain ⟨e1, e2, e3⟩ := h
  refine v_if_ne (tgt := 17) C dX4_blame_4 (by decide) e1 (fun e4 => ?_) (fun e4 => ?_)
  · have h := e2 e4
    exact v_vret C E dX4_blame_17 h
  · have h := e3 e4
    refine v_aload_n C 0 dX4_blame_7 rfl ?_
    refine v_iload_n C 1 dX4_blame_8 rfl ?_
    refine v_putI C kX4 3 rfl rfl wd_94 rfl rfl (tyX4_ok 3 (by decide)) dX4_blame_9 ?_
    have h := h _ rfl
    refine v_aload_n C 0 dX4_blame_12 rfl ?_
    refine v_iload_n C 2 dX4_blame_13 rfl ?_
    refine v_putI C kX4 2 rfl rfl wd_92 rfl rfl (tyX4_ok 2 (by decide)) dX4_blame_14 ?_
    have h := h _ rfl
    exact v_vret C E dX4_blame_17 h
def wp_X4_faultOfWord (o1 : Nat) (v2 : Int) (T : TH) (Q : Int → TH → Prop) : Prop :=
  zR (T o1 0 0) ∧ (¬ (T o1 0 0) = 0 → (zR v2 ∧ (v2 = 98 → (zR (T o1 3 0) ∧ (4 ≤ (T o1 3 0) → (Q 3 T)) ∧ (¬ (4 ≤ (T o1 3 0)) → (Q 0 T)))) ∧ (v2 = 102 → (zR (T o1 1 0) ∧ (8 ≤ (T o1 1 0) → (Q 3 T)) ∧ (¬ (8 ≤ (T o1 1 0)) → (Q 0 T)))) ∧ (v2 = 103 → (zR (T o1 4 0) ∧ (¬ (T o1 4 0) = 0 → (Q 3 T)) ∧ ((T o1 4 0) = 0 → (Q 0 T)))) ∧ (v2 = 107 → (Q 0 T)) ∧ (v2 = 109 → (Q 0 T)) ∧ (v2 = 116 → (Q 3 T)) ∧ (v2 = 119 → (zR (T o1 2 0) ∧ (12 ≤ (T o1 2 0) → (Q 3 T)) ∧ (¬ (12 ≤ (T o1 2 0)) → (Q 0 T)))) ∧ (¬ v2 = 98 → ¬ v2 = 102 → ¬ v2 = 103 → ¬ v2 = 107 → ¬ v2 = 109 → ¬ v2 = 116 → ¬ v2 = 119 → (Q 1 T)))) ∧ ((T o1 0 0) = 0 → (zR v2 ∧ (¬ v2 = 116 → (Q 1 T)) ∧ (v2 = 116 → (Q 0 T))))
set_option maxRecDepth 100000 in
theorem s_X4_faultOfWord (G : GT) (l0 : Launch) {o1 : Nat} {v2 : Int} {T : TH} {Q : Int → TH → Prop} (ho1 : clsO o1 = 3) (h : wp_X4_faultOfWord o1 v2 T Q) : MT G l0 yX4_faultOfWord cX4_faultOfWord 3 (some .int) 0 0 [.ref (gad G 1), .ref (gad G o1), .int (zI v2)] T (QI G Q) := by
  refine mt_of G l0 (by decide) (Nat.le_of_ble_eq_true rfl) (fun X C E => ?_)
  show V G X T 0 [(0, .ref (gad G 1)), (1, .ref (gad G o1)), (2, .int (zI v2))] []
  unfold wp_X4_faultOfWord at h
  refine v_aload_n C 1 dX4_faultOfWord_0 rfl ?_
  refine v_getI C kX3 0 ho1 rfl wd_121 rfl dX4_faultOfWord_1 ?_
  obtain ⟨e1, e2, e3⟩ := h
  refine v_if_ne (tgt := 19) C dX4_faultOfWord_4 (by decide) e1 (fun e4 => ?_) (fun e4 => ?_)
  · have h := e2 e4
    refine v_iload_n C 2 dX4_faultOfWord_19 rfl ?_
    obtain ⟨e5, h⟩ := h
    obtain ⟨e22, e23, e24, e25, e26, e27, e28, e29⟩ := h
    by_cases e31 : v2 = 98
    · have h := e22 e31
      refine v_tin (off := 136) (tgt := 156) C dX4_faultOfWord_20 e5 98 e31 (by decide) (by decide) (by decide) (by decide) ?_
      refine v_aload_n C 1 dX4_faultOfWord_156 rfl ?_
      refine v_getI C kX3 3 ho1 rfl wd_135 rfl dX4_faultOfWord_157 ?_
      refine v_iconst C dX4_faultOfWord_160 ?_
      obtain ⟨e6, e7, e8⟩ := h
      refine v_icmp_ge (tgt := 168) C dX4_faultOfWord_161 (by decide) e6 ⟨by decide, by decide⟩ (fun e9 => ?_) (fun e9 => ?_)
      · have h := e7 e9
        refine v_iconst C dX4_faultOfWord_168 ?_
        exact v_iret C E dX4_faultOfWord_169 h
      · have h := e8 e9
        refine v_iconst C dX4_faultOfWord_164 ?_
        refine v_goto (tgt := 169) C dX4_faultOfWord_165 (by decide) ?_
        exact v_iret C E dX4_faultOfWord_169 h
    by_cases e32 : v2 = 102
    · have h := e23 e32
      refine v_tin (off := 106) (tgt := 126) C dX4_faultOfWord_20 e5 102 e32 (by decide) (by decide) (by decide) (by decide) ?_
      refine v_aload_n C 1 dX4_faultOfWord_126 rfl ?_
      refine v_getI C kX3 1 ho1 rfl wd_129 rfl dX4_faultOfWord_127 ?_
      refine v_bipush C dX4_faultOfWord_130 (by decide) ?_
      obtain ⟨e10, e11, e12⟩ := h
      refine v_icmp_ge (tgt := 139) C dX4_faultOfWord_132 (by decide) e10 ⟨by decide, by decide⟩ (fun e13 => ?_) (fun e13 => ?_)
      · have h := e11 e13
        refine v_iconst C dX4_faultOfWord_139 ?_
        exact v_iret C E dX4_faultOfWord_140 h
      · have h := e12 e13
        refine v_iconst C dX4_faultOfWord_135 ?_
        refine v_goto (tgt := 140) C dX4_faultOfWord_136 (by decide) ?_
        exact v_iret C E dX4_faultOfWord_140 h
    by_cases e33 : v2 = 103
    · have h := e24 e33
      refine v_tin (off := 150) (tgt := 170) C dX4_faultOfWord_20 e5 103 e33 (by decide) (by decide) (by decide) (by decide) ?_
      refine v_aload_n C 1 dX4_faultOfWord_170 rfl ?_
      refine v_getI C kX3 4 ho1 rfl wd_138 rfl dX4_faultOfWord_171 ?_
      obtain ⟨e14, e15, e16⟩ := h
      refine v_if_ne (tgt := 181) C dX4_faultOfWord_174 (by decide) e14 (fun e17 => ?_) (fun e17 => ?_)
      · have h := e15 e17
        refine v_iconst C dX4_faultOfWord_181 ?_
        exact v_iret C E dX4_faultOfWord_182 h
      · have h := e16 e17
        refine v_iconst C dX4_faultOfWord_177 ?_
        refine v_goto (tgt := 182) C dX4_faultOfWord_178 (by decide) ?_
        exact v_iret C E dX4_faultOfWord_182 h
    by_cases e34 : v2 = 107
    · have h := e25 e34
      refine v_tin (off := 163) (tgt := 183) C dX4_faultOfWord_20 e5 107 e34 (by decide) (by decide) (by decide) (by decide) ?_
      refine v_iconst C dX4_faultOfWord_183 ?_
      exact v_iret C E dX4_faultOfWord_184 h
    by_cases e35 : v2 = 109
    · have h := e26 e35
      refine v_tin (off := 165) (tgt := 185) C dX4_faultOfWord_20 e5 109 e35 (by decide) (by decide) (by decide) (by decide) ?_
      refine v_iconst C dX4_faultOfWord_185 ?_
      exact v_iret C E dX4_faultOfWord_186 h
    by_cases e36 : v2 = 116
    · have h := e27 e36
      refine v_tin (off := 104) (tgt := 124) C dX4_faultOfWord_20 e5 116 e36 (by decide) (by decide) (by decide) (by decide) ?_
      refine v_iconst C dX4_faultOfWord_124 ?_
      exact v_iret C E dX4_faultOfWord_125 h
    by_cases e37 : v2 = 119
    · have h := e28 e37
      refine v_tin (off := 121) (tgt := 141) C dX4_faultOfWord_20 e5 119 e37 (by decide) (by decide) (by decide) (by decide) ?_
      refine v_aload_n C 1 dX4_faultOfWord_141 rfl ?_
      refine v_getI C kX3 2 ho1 rfl wd_132 rfl dX4_faultOfWord_142 ?_
      refine v_bipush C dX4_faultOfWord_145 (by decide) ?_
      obtain ⟨e18, e19, e20⟩ := h
      refine v_icmp_ge (tgt := 154) C dX4_faultOfWord_147 (by decide) e18 ⟨by decide, by decide⟩ (fun e21 => ?_) (fun e21 => ?_)
      · have h := e19 e21
        refine v_iconst C dX4_faultOfWord_154 ?_
        exact v_iret C E dX4_faultOfWord_155 h
      · have h := e20 e21
        refine v_iconst C dX4_faultOfWord_150 ?_
        refine v_goto (tgt := 155) C dX4_faultOfWord_151 (by decide) ?_
        exact v_iret C E dX4_faultOfWord_155 h
    have h := e29 e31 e32 e33 e34 e35 e36 e37
    by_cases e38 : v2 = 99
    · refine v_tin (off := 167) (tgt := 187) C dX4_faultOfWord_20 e5 99 e38 (by decide) (by decide) (by decide) (by decide) ?_
      refine v_iconst C dX4_faultOfWord_187 ?_
      exact v_iret C E dX4_faultOfWord_188 h
    by_cases e39 : v2 = 100
    · refine v_tin (off := 167) (tgt := 187) C dX4_faultOfWord_20 e5 100 e39 (by decide) (by decide) (by decide) (by decide) ?_
      refine v_iconst C dX4_faultOfWord_187 ?_
      exact v_iret C E dX4_faultOfWord_188 h
    by_cases e40 : v2 = 101
    · refine v_tin (off := 167) (tgt := 187) C dX4_faultOfWord_20 e5 101 e40 (by decide) (by decide) (by decide) (by decide) ?_
      refine v_iconst C dX4_faultOfWord_187 ?_
      exact v_iret C E dX4_faultOfWord_188 h
    by_cases e41 : v2 = 104
    · refine v_tin (off := 167) (tgt := 187) C dX4_faultOfWord_20 e5 104 e41 (by decide) (by decide) (by decide) (by decide) ?_
      refine v_iconst C dX4_faultOfWord_187 ?_
      exact v_iret C E dX4_faultOfWord_188 h
    by_cases e42 : v2 = 105
    · refine v_tin (off := 167) (tgt := 187) C dX4_faultOfWord_20 e5 105 e42 (by decide) (by decide) (by decide) (by decide) ?_
      refine v_iconst C dX4_faultOfWord_187 ?_
      exact v_iret C E dX4_faultOfWord_188 h
    by_cases e43 : v2 = 106
    · refine v_tin (off := 167) (tgt := 187) C dX4_faultOfWord_20 e5 106 e43 (by decide) (by decide) (by decide) (by decide) ?_
      refine v_iconst C dX4_faultOfWord_187 ?_
      exact v_iret C E dX4_faultOfWord_188 h
    by_cases e44 : v2 = 108
    · refine v_tin (off := 167) (tgt := 187) C dX4_faultOfWord_20 e5 108 e44 (by decide) (by decide) (by decide) (by decide) ?_
      refine v_iconst C dX4_faultOfWord_187 ?_
      exact v_iret C E dX4_faultOfWord_188 h
    by_cases e45 : v2 = 110
    · refine v_tin (off := 167) (tgt := 187) C dX4_faultOfWord_20 e5 110 e45 (by decide) (by decide) (by decide) (by decide) ?_
      refine v_iconst C dX4_faultOfWord_187 ?_
      exact v_iret C E dX4_faultOfWord_188 h
    by_cases e46 : v2 = 111
    · refine v_tin (off := 167) (tgt := 187) C dX4_faultOfWord_20 e5 111 e46 (by decide) (by decide) (by decide) (by decide) ?_
      refine v_iconst C dX4_faultOfWord_187 ?_
      exact v_iret C E dX4_faultOfWord_188 h
    by_cases e47 : v2 = 112
    · refine v_tin (off := 167) (tgt := 187) C dX4_faultOfWord_20 e5 112 e47 (by decide) (by decide) (by decide) (by decide) ?_
      refine v_iconst C dX4_faultOfWord_187 ?_
      exact v_iret C E dX4_faultOfWord_188 h
    by_cases e48 : v2 = 113
    · refine v_tin (off := 167) (tgt := 187) C dX4_faultOfWord_20 e5 113 e48 (by decide) (by decide) (by decide) (by decide) ?_
      refine v_iconst C dX4_faultOfWord_187 ?_
      exact v_iret C E dX4_faultOfWord_188 h
    by_cases e49 : v2 = 114
    · refine v_tin (off := 167) (tgt := 187) C dX4_faultOfWord_20 e5 114 e49 (by decide) (by decide) (by decide) (by decide) ?_
      refine v_iconst C dX4_faultOfWord_187 ?_
      exact v_iret C E dX4_faultOfWord_188 h
    by_cases e50 : v2 = 115
    · refine v_tin (off := 167) (tgt := 187) C dX4_faultOfWord_20 e5 115 e50 (by decide) (by decide) (by decide) (by decide) ?_
      refine v_iconst C dX4_faultOfWord_187 ?_
      exact v_iret C E dX4_faultOfWord_188 h
    by_cases e51 : v2 = 117
    · refine v_tin (off := 167) (tgt := 187) C dX4_faultOfWord_20 e5 117 e51 (by decide) (by decide) (by decide) (by decide) ?_
      refine v_iconst C dX4_faultOfWord_187 ?_
      exact v_iret C E dX4_faultOfWord_188 h
    by_cases e52 : v2 = 118
    · refine v_tin (off := 167) (tgt := 187) C dX4_faultOfWord_20 e5 118 e52 (by decide) (by decide) (by decide) (by decide) ?_
      refine v_iconst C dX4_faultOfWord_187 ?_
      exact v_iret C E dX4_faultOfWord_188 h
    refine v_tout (tgt := 187) C dX4_faultOfWord_20 e5 (by omega) (by decide) ?_
    refine v_iconst C dX4_faultOfWord_187 ?_
    exact v_iret C E dX4_faultOfWord_188 h
  · have h := e3 e4
    refine v_iload_n C 2 dX4_faultOfWord_7 rfl ?_
    refine v_bipush C dX4_faultOfWord_8 (by decide) ?_
    obtain ⟨e53, e54, e55⟩ := h
    refine v_icmp_ne (tgt := 17) C dX4_faultOfWord_10 (by decide) e53 ⟨by decide, by decide⟩ (fun e56 => ?_) (fun e56 => ?_)
    · have h := e54 e56
      refine v_iconst C dX4_faultOfWord_17 ?_
      exact v_iret C E dX4_faultOfWord_18 h
    · have h := e55 e56
      refine v_iconst C dX4_faultOfWord_13 ?_
      refine v_goto (tgt := 18) C dX4_faultOfWord_14 (by decide) ?_
      exact v_iret C E dX4_faultOfWord_18 h
def wp_X4_letterHere (T : TH) (Q : Int → TH → Prop) : Prop :=
  zR (T 1 4 0) ∧ ((T 1 4 0) < 0 → (Q (-1) T)) ∧ (¬ ((T 1 4 0) < 0) → (zR (T 1 4 0) ∧ zR (T 1 1 0) ∧ ((T 1 1 0) ≤ (T 1 4 0) → (Q (-1) T)) ∧ (¬ ((T 1 1 0) ≤ (T 1 4 0)) → (0 ≤ (T 1 4 0) ∧ (T 1 4 0) < 250 ∧ Q (T 1 0 (T 1 4 0)) T))))
set_option maxRecDepth 100000 in
theorem s_X4_letterHere (G : GT) (l0 : Launch) {T : TH} {Q : Int → TH → Prop} (h : wp_X4_letterHere T Q) : MT G l0 yX4_letterHere cX4_letterHere 1 (some .int) 0 0 [.ref (gad G 1)] T (QI G Q) := by
  refine mt_of G l0 (by decide) (Nat.le_of_ble_eq_true rfl) (fun X C E => ?_)
  show V G X T 0 [(0, .ref (gad G 1))] []
  unfold wp_X4_letterHere at h
  refine v_aload_n C 0 dX4_letterHere_0 rfl ?_
  refine v_getI C kX4 4 rfl rfl wd_95 rfl dX4_letterHere_1 ?_
  obtain ⟨e1, e2, e3⟩ := h
  refine v_if_lt (tgt := 30) C dX4_letterHere_4 (by decide) e1 (fun e4 => ?_) (fun e4 => ?_)
  · have h := e2 e4
    refine v_iconst C dX4_letterHere_30 ?_
    exact v_iret C E dX4_letterHere_31 h
  · have h := e3 e4
    refine v_aload_n C 0 dX4_letterHere_7 rfl ?_
    refine v_getI C kX4 4 rfl rfl wd_95 rfl dX4_letterHere_8 ?_
    refine v_aload_n C 0 dX4_letterHere_11 rfl ?_
    refine v_getI C kX4 1 rfl rfl wd_90 rfl dX4_letterHere_12 ?_
    obtain ⟨e5, e6, e7, e8⟩ := h
    refine v_icmp_ge (tgt := 30) C dX4_letterHere_15 (by decide) e5 e6 (fun e9 => ?_) (fun e9 => ?_)
    · have h := e7 e9
      refine v_iconst C dX4_letterHere_30 ?_
      exact v_iret C E dX4_letterHere_31 h
    · have h := e8 e9
      refine v_aload_n C 0 dX4_letterHere_18 rfl ?_
      refine v_getA C kX4 0 rfl rfl wd_89 rfl dX4_letterHere_19 ?_
      refine v_aload_n C 0 dX4_letterHere_22 rfl ?_
      refine v_getI C kX4 4 rfl rfl wd_95 rfl dX4_letterHere_23 ?_
      obtain ⟨e10, e11, h⟩ := h
      refine v_iald C (ar_of (o := 1) rfl ar_4_0) dX4_letterHere_26 e10 e11 ?_
      refine v_goto (tgt := 31) C dX4_letterHere_27 (by decide) ?_
      exact v_iret C E dX4_letterHere_31 h
def wp_X4_isFigure (v0 : Int) (T : TH) (Q : Bool → TH → Prop) : Prop :=
  zR v0 ∧ (v0 < 48 → (Q false T)) ∧ (¬ (v0 < 48) → (zR v0 ∧ (57 < v0 → (Q false T)) ∧ (¬ (57 < v0) → (Q true T))))
set_option maxRecDepth 100000 in
theorem s_X4_isFigure (G : GT) (l0 : Launch) {v0 : Int} {T : TH} {Q : Bool → TH → Prop} (h : wp_X4_isFigure v0 T Q) : MT G l0 yX4_isFigure cX4_isFigure 1 (some .boolean) 0 0 [.int (zI v0)] T (QZ G Q) := by
  refine mt_of G l0 (by decide) (Nat.le_of_ble_eq_true rfl) (fun X C E => ?_)
  show V G X T 0 [(0, .int (zI v0))] []
  unfold wp_X4_isFigure at h
  refine v_iload_n C 0 dX4_isFigure_0 rfl ?_
  refine v_bipush C dX4_isFigure_1 (by decide) ?_
  obtain ⟨e1, e2, e3⟩ := h
  refine v_icmp_lt (tgt := 16) C dX4_isFigure_3 (by decide) e1 ⟨by decide, by decide⟩ (fun e4 => ?_) (fun e4 => ?_)
  · have h := e2 e4
    refine v_iconst C dX4_isFigure_16 ?_
    exact v_zret (z := false) C E dX4_isFigure_17 h
  · have h := e3 e4
    refine v_iload_n C 0 dX4_isFigure_6 rfl ?_
    refine v_bipush C dX4_isFigure_7 (by decide) ?_
    obtain ⟨e5, e6, e7⟩ := h
    refine v_icmp_gt (tgt := 16) C dX4_isFigure_9 (by decide) e5 ⟨by decide, by decide⟩ (fun e8 => ?_) (fun e8 => ?_)
    · have h := e6 e8
      refine v_iconst C dX4_isFigure_16 ?_
      exact v_zret (z := false) C E dX4_isFigure_17 h
    · have h := e7 e8
      refine v_iconst C dX4_isFigure_12 ?_
      refine v_goto (tgt := 17) C dX4_isFigure_13 (by decide) ?_
      exact v_zret (z := true) C E dX4_isFigure_17 h
def h_X4_skipBlanks_0 (Q : TH → Prop) : Nat → TH → Prop
  | 0, _ => False
  | n + 1, T => zR (T 1 4 0) ∧ zR (T 1 1 0) ∧ ((T 1 1 0) ≤ (T 1 4 0) → (Q T)) ∧ (¬ ((T 1 1 0) ≤ (T 1 4 0)) → (wp_X4_letterHere T (fun r2 T1 => zR r2 ∧ (¬ r2 = 32 → (Q T1)) ∧ (r2 = 32 → (∀ T3 : TH, T3 = up T1 1 4 0 ((T1 1 4 0) + 1) → (h_X4_skipBlanks_0 Q n) T3)))))
def wp_X4_skipBlanks (T : TH) (Q : TH → Prop) : Prop :=
  (∃ m9 : Nat, h_X4_skipBlanks_0 Q m9 T)
set_option maxRecDepth 100000 in
theorem t_X4_skipBlanks_0 {G : GT} {l0 : Launch} {X : CX} (C : CT G l0 X cX4_skipBlanks 1 RX4 (rM 1 20)) {Q : TH → Prop} (E : EN G X none (QV G Q)) : ∀ (n : Nat) (T : TH), h_X4_skipBlanks_0 Q n T → V G X T 0 [(0, .ref (gad G 1))] [] := by
  intro n
  induction n with
  | zero =>
    intro T h
    exact h.elim
  | succ n ih =>
    intro T h
    rw [h_X4_skipBlanks_0] at h
    refine v_aload_n C 0 dX4_skipBlanks_0 rfl ?_
    refine v_getI C kX4 4 rfl rfl wd_95 rfl dX4_skipBlanks_1 ?_
    refine v_aload_n C 0 dX4_skipBlanks_4 rfl ?_
    refine v_getI C kX4 1 rfl rfl wd_90 rfl dX4_skipBlanks_5 ?_
    obtain ⟨e1, e2, e3, e4⟩ := h
    refine v_icmp_ge (tgt := 33) C dX4_skipBlanks_8 (by decide) e1 e2 (fun e5 => ?_) (fun e5 => ?_)
    · have h := e3 e5
      exact v_vret C E dX4_skipBlanks_33 h
    · have h := e4 e5
      refine v_aload_n C 0 dX4_skipBlanks_11 rfl ?_
      refine v_cVI C kX4 rfl (s_X4_letterHere G l0 h) mv_X4_letterHere wd_383 ⟨by decide, by decide⟩ rfl rfl (Nat.le_of_ble_eq_true rfl) dX4_skipBlanks_12 (fun r2 T1 h => ?_)
      refine v_bipush C dX4_skipBlanks_15 (by decide) ?_
      obtain ⟨e6, e7, e8⟩ := h
      refine v_icmp_ne (tgt := 33) C dX4_skipBlanks_17 (by decide) e6 ⟨by decide, by decide⟩ (fun e9 => ?_) (fun e9 => ?_)
      · have h := e7 e9
        exact v_vret C E dX4_skipBlanks_33 h
      · have h := e8 e9
        refine v_aload_n C 0 dX4_skipBlanks_20 rfl ?_
        refine v_dup C dX4_skipBlanks_21 rfl ?_
        refine v_getI C kX4 4 rfl rfl wd_95 rfl dX4_skipBlanks_22 ?_
        refine v_iconst C dX4_skipBlanks_25 ?_
        refine v_iadd C dX4_skipBlanks_26 ?_
        refine v_putI C kX4 4 rfl rfl wd_95 rfl rfl (tyX4_ok 4 (by decide)) dX4_skipBlanks_27 ?_
        have h := h _ rfl
        refine v_goto (tgt := 0) C dX4_skipBlanks_30 (by decide) ?_
        exact v_sub [0] rfl (ih _ h)
set_option maxRecDepth 100000 in
theorem s_X4_skipBlanks (G : GT) (l0 : Launch) {T : TH} {Q : TH → Prop} (h : wp_X4_skipBlanks T Q) : MT G l0 yX4_skipBlanks cX4_skipBlanks 1 none 1 20 [.ref (gad G 1)] T (QV G Q) := by
  refine mt_of G l0 (by decide) (Nat.le_of_ble_eq_true rfl) (fun X C E => ?_)
  show V G X T 0 [(0, .ref (gad G 1))] []
  unfold wp_X4_skipBlanks at h
  obtain ⟨n9, h⟩ := h
  exact v_sub [0] rfl (t_X4_skipBlanks_0 C E n9 _ h)
def b_X4_readNumber_122 (v1 : Int) (v2 : Int) (Q : Int → TH → Prop) (v3 : Int) (T : TH) : Prop :=
  wp_X4_blame 2 (T 1 5 0) T (fun T1 => Q v3 T1)
def b_X4_readNumber_99 (v1 : Int) (v2 : Int) (Q : Int → TH → Prop) (v3 : Int) (T : TH) : Prop :=
  zR ((T 1 4 0) - (T 1 5 0)) ∧ (3 < ((T 1 4 0) - (T 1 5 0)) → (b_X4_readNumber_122 v1 v2 Q v3 T)) ∧ (¬ (3 < ((T 1 4 0) - (T 1 5 0))) → (zR v3 ∧ zR v1 ∧ (v3 < v1 → (b_X4_readNumber_122 v1 v2 Q v3 T)) ∧ (¬ (v3 < v1) → (zR v3 ∧ zR v2 ∧ (v3 ≤ v2 → (Q v3 T)) ∧ (¬ (v3 ≤ v2) → (b_X4_readNumber_122 v1 v2 Q v3 T))))))
def b_X4_readNumber_85 (v1 : Int) (v2 : Int) (Q : Int → TH → Prop) (K35 : Int → TH → Prop) (s0 : Int) (T : TH) : Prop :=
  ∀ T1 : TH, T1 = up T 1 4 0 ((T 1 4 0) + 1) → K35 s0 T1
def h_X4_readNumber_35 (v1 : Int) (v2 : Int) (Q : Int → TH → Prop) : Nat → Int → TH → Prop
  | 0, _, _ => False
  | n + 1, v3, T => zR (T 1 4 0) ∧ zR (T 1 1 0) ∧ ((T 1 1 0) ≤ (T 1 4 0) → (b_X4_readNumber_99 v1 v2 Q v3 T)) ∧ (¬ ((T 1 1 0) ≤ (T 1 4 0)) → (wp_X4_letterHere T (fun r2 T1 => wp_X4_isFigure r2 T1 (fun p4 T3 => (p4 = false → (b_X4_readNumber_99 v1 v2 Q v3 T3)) ∧ (p4 = true → (zR ((T3 1 4 0) - (T3 1 5 0)) ∧ (3 ≤ ((T3 1 4 0) - (T3 1 5 0)) → (b_X4_readNumber_85 v1 v2 Q (h_X4_readNumber_35 v1 v2 Q n) v3 T3)) ∧ (¬ (3 ≤ ((T3 1 4 0) - (T3 1 5 0))) → (wp_X4_letterHere T3 (fun r6 T5 => b_X4_readNumber_85 v1 v2 Q (h_X4_readNumber_35 v1 v2 Q n) (((v3 * 10) + r6) - 48) T5)))))))))
def wp_X4_readNumber (v1 : Int) (v2 : Int) (T : TH) (Q : Int → TH → Prop) : Prop :=
  wp_X4_skipBlanks T (fun T1 => ∀ T2 : TH, T2 = up T1 1 5 0 (T1 1 4 0) → wp_X4_letterHere T2 (fun r4 T3 => wp_X4_isFigure r4 T3 (fun p6 T5 => (p6 = true → ((∃ m9 : Nat, h_X4_readNumber_35 v1 v2 Q m9 0 T5))) ∧ (p6 = false → (wp_X4_blame 1 (T5 1 4 0) T5 (fun T7 => Q (-1) T7))))))
set_option maxRecDepth 100000 in
theorem t_X4_readNumber_122 {G : GT} {l0 : Launch} {X : CX} (C : CT G l0 X cX4_readNumber 4 RX4 (rM 2 40)) {Q : Int → TH → Prop} (E : EN G X (some .int) (QI G Q)) {v1 : Int} {v2 : Int} {v3 : Int} {T : TH} (h : b_X4_readNumber_122 v1 v2 Q v3 T) : V G X T 122 [(0, .ref (gad G 1)), (1, .int (zI v1)), (2, .int (zI v2)), (3, .int (zI v3))] [] := by
  unfold b_X4_readNumber_122 at h
  refine v_aload_n C 0 dX4_readNumber_122 rfl ?_
  refine v_iconst C dX4_readNumber_123 ?_
  refine v_aload_n C 0 dX4_readNumber_124 rfl ?_
  refine v_getI C kX4 5 rfl rfl wd_96 rfl dX4_readNumber_125 ?_
  refine v_cVN C kX4 rfl (s_X4_blame G l0 h) mv_X4_blame wd_395 ⟨by decide, by decide⟩ rfl rfl (Nat.le_of_ble_eq_true rfl) dX4_readNumber_128 (fun T1 h => ?_)
  refine v_iload_n C 3 dX4_readNumber_131 rfl ?_
  exact v_iret C E dX4_readNumber_132 h
set_option maxRecDepth 100000 in
theorem t_X4_readNumber_99 {G : GT} {l0 : Launch} {X : CX} (C : CT G l0 X cX4_readNumber 4 RX4 (rM 2 40)) {Q : Int → TH → Prop} (E : EN G X (some .int) (QI G Q)) {v1 : Int} {v2 : Int} {v3 : Int} {T : TH} (h : b_X4_readNumber_99 v1 v2 Q v3 T) : V G X T 99 [(0, .ref (gad G 1)), (1, .int (zI v1)), (2, .int (zI v2)), (3, .int (zI v3))] [] := by
  unfold b_X4_readNumber_99 at h
  refine v_aload_n C 0 dX4_readNumber_99 rfl ?_
  refine v_getI C kX4 4 rfl rfl wd_95 rfl dX4_readNumber_100 ?_
  refine v_aload_n C 0 dX4_readNumber_103 rfl ?_
  refine v_getI C kX4 5 rfl rfl wd_96 rfl dX4_readNumber_104 ?_
  refine v_isub C dX4_readNumber_107 ?_
  refine v_iconst C dX4_readNumber_108 ?_
  obtain ⟨e1, e2, e3⟩ := h
  refine v_icmp_gt (tgt := 122) C dX4_readNumber_109 (by decide) e1 ⟨by decide, by decide⟩ (fun e4 => ?_) (fun e4 => ?_)
  · have h := e2 e4
    exact v_sub [0, 1, 2, 3] rfl (t_X4_readNumber_122 C E h)
  · have h := e3 e4
    refine v_iload_n C 3 dX4_readNumber_112 rfl ?_
    refine v_iload_n C 1 dX4_readNumber_113 rfl ?_
    obtain ⟨e5, e6, e7, e8⟩ := h
    refine v_icmp_lt (tgt := 122) C dX4_readNumber_114 (by decide) e5 e6 (fun e9 => ?_) (fun e9 => ?_)
    · have h := e7 e9
      exact v_sub [0, 1, 2, 3] rfl (t_X4_readNumber_122 C E h)
    · have h := e8 e9
      refine v_iload_n C 3 dX4_readNumber_117 rfl ?_
      refine v_iload_n C 2 dX4_readNumber_118 rfl ?_
      obtain ⟨e10, e11, e12, e13⟩ := h
      refine v_icmp_le (tgt := 131) C dX4_readNumber_119 (by decide) e10 e11 (fun e14 => ?_) (fun e14 => ?_)
      · have h := e12 e14
        refine v_iload_n C 3 dX4_readNumber_131 rfl ?_
        exact v_iret C E dX4_readNumber_132 h
      · have h := e13 e14
        exact v_sub [0, 1, 2, 3] rfl (t_X4_readNumber_122 C E h)
set_option maxRecDepth 100000 in
theorem t_X4_readNumber_85 {G : GT} {l0 : Launch} {X : CX} (C : CT G l0 X cX4_readNumber 4 RX4 (rM 2 40)) {Q : Int → TH → Prop} (E : EN G X (some .int) (QI G Q)) {v1 : Int} {v2 : Int} {K35 : Int → TH → Prop} (k35 : ∀ (v3 : Int) (T : TH), K35 v3 T → V G X T 35 [(0, .ref (gad G 1)), (1, .int (zI v1)), (2, .int (zI v2)), (3, .int (zI v3))] []) {s0 : Int} {T : TH} (h : b_X4_readNumber_85 v1 v2 Q K35 s0 T) : V G X T 85 [(0, .ref (gad G 1)), (1, .int (zI v1)), (2, .int (zI v2))] [.int (zI s0)] := by
  unfold b_X4_readNumber_85 at h
  refine v_istore_n C dX4_readNumber_85 rfl (by decide) ?_
  refine v_aload_n C 1 dX4_readNumber_86 rfl ?_
  refine v_dup C dX4_readNumber_87 rfl ?_
  refine v_getI C kX4 4 rfl rfl wd_95 rfl dX4_readNumber_88 ?_
  refine v_iconst C dX4_readNumber_91 ?_
  refine v_iadd C dX4_readNumber_92 ?_
  refine v_putI C kX4 4 rfl rfl wd_95 rfl rfl (tyX4_ok 4 (by decide)) dX4_readNumber_93 ?_
  have h := h _ rfl
  refine v_goto (tgt := 35) C dX4_readNumber_96 (by decide) ?_
  exact v_sub [1, 2, 3, 0] rfl (k35 _ _ h)
set_option maxRecDepth 100000 in
theorem t_X4_readNumber_35 {G : GT} {l0 : Launch} {X : CX} (C : CT G l0 X cX4_readNumber 4 RX4 (rM 2 40)) {Q : Int → TH → Prop} (E : EN G X (some .int) (QI G Q)) {v1 : Int} {v2 : Int} : ∀ (n : Nat) (v3 : Int) (T : TH), h_X4_readNumber_35 v1 v2 Q n v3 T → V G X T 35 [(0, .ref (gad G 1)), (1, .int (zI v1)), (2, .int (zI v2)), (3, .int (zI v3))] [] := by
  intro n
  induction n with
  | zero =>
    intro v3 T h
    exact h.elim
  | succ n ih =>
    intro v3 T h
    rw [h_X4_readNumber_35] at h
    refine v_aload_n C 0 dX4_readNumber_35 rfl ?_
    refine v_getI C kX4 4 rfl rfl wd_95 rfl dX4_readNumber_36 ?_
    refine v_aload_n C 0 dX4_readNumber_39 rfl ?_
    refine v_getI C kX4 1 rfl rfl wd_90 rfl dX4_readNumber_40 ?_
    obtain ⟨e1, e2, e3, e4⟩ := h
    refine v_icmp_ge (tgt := 99) C dX4_readNumber_43 (by decide) e1 e2 (fun e5 => ?_) (fun e5 => ?_)
    · have h := e3 e5
      exact v_sub [0, 1, 2, 3] rfl (t_X4_readNumber_99 C E h)
    · have h := e4 e5
      refine v_aload_n C 0 dX4_readNumber_46 rfl ?_
      refine v_cVI C kX4 rfl (s_X4_letterHere G l0 h) mv_X4_letterHere wd_383 ⟨by decide, by decide⟩ rfl rfl (Nat.le_of_ble_eq_true rfl) dX4_readNumber_47 (fun r2 T1 h => ?_)
      refine v_cSZ C (s_X4_isFigure G l0 h) mv_X4_isFigure wd_407 ⟨by decide, by decide⟩ rfl rfl (Nat.le_of_ble_eq_true rfl) dX4_readNumber_50 (fun p4 T3 h => ?_)
      obtain ⟨e6, e7⟩ := h
      refine v_ifz_eq (tgt := 99) C dX4_readNumber_53 (by decide) (fun e8 => ?_) (fun e8 => ?_)
      · have h := e6 e8
        exact v_sub [0, 1, 2, 3] rfl (t_X4_readNumber_99 C E h)
      · have h := e7 e8
        refine v_aload_n C 0 dX4_readNumber_56 rfl ?_
        refine v_getI C kX4 4 rfl rfl wd_95 rfl dX4_readNumber_57 ?_
        refine v_aload_n C 0 dX4_readNumber_60 rfl ?_
        refine v_getI C kX4 5 rfl rfl wd_96 rfl dX4_readNumber_61 ?_
        refine v_isub C dX4_readNumber_64 ?_
        refine v_iconst C dX4_readNumber_65 ?_
        obtain ⟨e9, e10, e11⟩ := h
        refine v_icmp_ge (tgt := 84) C dX4_readNumber_66 (by decide) e9 ⟨by decide, by decide⟩ (fun e12 => ?_) (fun e12 => ?_)
        · have h := e10 e12
          refine v_iload_n C 3 dX4_readNumber_84 rfl ?_
          exact v_sub [0, 1, 2] rfl (t_X4_readNumber_85 C E ih h)
        · have h := e11 e12
          refine v_iload_n C 3 dX4_readNumber_69 rfl ?_
          refine v_bipush C dX4_readNumber_70 (by decide) ?_
          refine v_imul C dX4_readNumber_72 ?_
          refine v_aload_n C 0 dX4_readNumber_73 rfl ?_
          refine v_cVI C kX4 rfl (s_X4_letterHere G l0 h) mv_X4_letterHere wd_383 ⟨by decide, by decide⟩ rfl rfl (Nat.le_of_ble_eq_true rfl) dX4_readNumber_74 (fun r6 T5 h => ?_)
          refine v_iadd C dX4_readNumber_77 ?_
          refine v_bipush C dX4_readNumber_78 (by decide) ?_
          refine v_isub C dX4_readNumber_80 ?_
          refine v_goto (tgt := 85) C dX4_readNumber_81 (by decide) ?_
          exact v_sub [0, 1, 2] rfl (t_X4_readNumber_85 C E ih h)
set_option maxRecDepth 100000 in
theorem s_X4_readNumber (G : GT) (l0 : Launch) {v1 : Int} {v2 : Int} {T : TH} {Q : Int → TH → Prop} (h : wp_X4_readNumber v1 v2 T Q) : MT G l0 yX4_readNumber cX4_readNumber 4 (some .int) 2 40 [.ref (gad G 1), .int (zI v1), .int (zI v2)] T (QI G Q) := by
  refine mt_of G l0 (by decide) (Nat.le_of_ble_eq_true rfl) (fun X C E => ?_)
  show V G X T 0 [(0, .ref (gad G 1)), (1, .int (zI v1)), (2, .int (zI v2))] []
  unfold wp_X4_readNumber at h
  refine v_aload_n C 0 dX4_readNumber_0 rfl ?_
  refine v_cVN C kX4 rfl (s_X4_skipBlanks G l0 h) mv_X4_skipBlanks wd_379 ⟨by decide, by decide⟩ rfl rfl (Nat.le_of_ble_eq_true rfl) dX4_readNumber_1 (fun T1 h => ?_)
  refine v_aload_n C 0 dX4_readNumber_4 rfl ?_
  refine v_aload_n C 0 dX4_readNumber_5 rfl ?_
  refine v_getI C kX4 4 rfl rfl wd_95 rfl dX4_readNumber_6 ?_
  refine v_putI C kX4 5 rfl rfl wd_96 rfl rfl (tyX4_ok 5 (by decide)) dX4_readNumber_9 ?_
  have h := h _ rfl
  refine v_aload_n C 0 dX4_readNumber_12 rfl ?_
  refine v_cVI C kX4 rfl (s_X4_letterHere G l0 h) mv_X4_letterHere wd_383 ⟨by decide, by decide⟩ rfl rfl (Nat.le_of_ble_eq_true rfl) dX4_readNumber_13 (fun r4 T3 h => ?_)
  refine v_cSZ C (s_X4_isFigure G l0 h) mv_X4_isFigure wd_407 ⟨by decide, by decide⟩ rfl rfl (Nat.le_of_ble_eq_true rfl) dX4_readNumber_16 (fun p6 T5 h => ?_)
  obtain ⟨e1, e2⟩ := h
  refine v_ifz_ne (tgt := 33) C dX4_readNumber_19 (by decide) (fun e3 => ?_) (fun e3 => ?_)
  · have h := e1 e3
    refine v_iconst C dX4_readNumber_33 ?_
    refine v_istore_n C dX4_readNumber_34 rfl (by decide) ?_
    obtain ⟨n9, h⟩ := h
    exact v_sub [1, 2, 3, 0] rfl (t_X4_readNumber_35 C E n9 _ _ h)
  · have h := e2 e3
    refine v_aload_n C 0 dX4_readNumber_22 rfl ?_
    refine v_iconst C dX4_readNumber_23 ?_
    refine v_aload_n C 0 dX4_readNumber_24 rfl ?_
    refine v_getI C kX4 4 rfl rfl wd_95 rfl dX4_readNumber_25 ?_
    refine v_cVN C kX4 rfl (s_X4_blame G l0 h) mv_X4_blame wd_395 ⟨by decide, by decide⟩ rfl rfl (Nat.le_of_ble_eq_true rfl) dX4_readNumber_28 (fun T7 h => ?_)
    refine v_iconst C dX4_readNumber_31 ?_
    exact v_iret C E dX4_readNumber_32 h
def wp_X4_readBridge (o1 : Nat) (T : TH) (Q : TH → Prop) : Prop :=
  wp_X4_readNumber 0 999 T (fun r2 T1 => zR (T1 1 3 0) ∧ (¬ (T1 1 3 0) = 0 → (Q T1)) ∧ ((T1 1 3 0) = 0 → (0 ≤ (T1 o1 3 0) ∧ (T1 o1 3 0) < 4 ∧ ∀ T3 : TH, T3 = up T1 o1 15 (T1 o1 3 0) r2 → ∀ T4 : TH, T4 = up T3 o1 3 0 ((T3 o1 3 0) + 1) → Q T4)))
set_option maxRecDepth 100000 in
theorem s_X4_readBridge (G : GT) (l0 : Launch) {o1 : Nat} {T : TH} {Q : TH → Prop} (ho1 : clsO o1 = 3) (h : wp_X4_readBridge o1 T Q) : MT G l0 yX4_readBridge cX4_readBridge 3 none 3 63 [.ref (gad G 1), .ref (gad G o1)] T (QV G Q) := by
  refine mt_of G l0 (by decide) (Nat.le_of_ble_eq_true rfl) (fun X C E => ?_)
  show V G X T 0 [(0, .ref (gad G 1)), (1, .ref (gad G o1))] []
  unfold wp_X4_readBridge at h
  refine v_aload_n C 0 dX4_readBridge_0 rfl ?_
  refine v_iconst C dX4_readBridge_1 ?_
  refine v_sipush C dX4_readBridge_2 (by decide) ?_
  refine v_cVI C kX4 rfl (s_X4_readNumber G l0 h) mv_X4_readNumber wd_403 ⟨by decide, by decide⟩ rfl rfl (Nat.le_of_ble_eq_true rfl) dX4_readBridge_5 (fun r2 T1 h => ?_)
  refine v_istore_n C dX4_readBridge_8 rfl (by decide) ?_
  refine v_aload_n C 1 dX4_readBridge_9 rfl ?_
  refine v_getI C kX4 3 rfl rfl wd_94 rfl dX4_readBridge_10 ?_
  obtain ⟨e1, e2, e3⟩ := h
  refine v_if_ne (tgt := 36) C dX4_readBridge_13 (by decide) e1 (fun e4 => ?_) (fun e4 => ?_)
  · have h := e2 e4
    exact v_vret C E dX4_readBridge_36 h
  · have h := e3 e4
    refine v_aload_n C 2 dX4_readBridge_16 rfl ?_
    refine v_getA C kX3 15 ho1 rfl wd_173 rfl dX4_readBridge_17 ?_
    refine v_aload_n C 2 dX4_readBridge_20 rfl ?_
    refine v_getI C kX3 3 ho1 rfl wd_135 rfl dX4_readBridge_21 ?_
    refine v_iload_n C 0 dX4_readBridge_24 rfl ?_
    obtain ⟨e5, e6, h⟩ := h
    refine v_iast C (ar_of ho1 ar_3_15) dX4_readBridge_25 e5 e6 ?_
    have h := h _ rfl
    refine v_aload_n C 2 dX4_readBridge_26 rfl ?_
    refine v_dup C dX4_readBridge_27 rfl ?_
    refine v_getI C kX3 3 ho1 rfl wd_135 rfl dX4_readBridge_28 ?_
    refine v_iconst C dX4_readBridge_31 ?_
    refine v_iadd C dX4_readBridge_32 ?_
    refine v_putI C kX3 3 ho1 rfl wd_135 rfl rfl (tyX3_ok 3 (by decide)) dX4_readBridge_33 ?_
    have h := h _ rfl
    exact v_vret C E dX4_readBridge_36 h
def b_X4_readEnd_22 (Q : TH → Prop) (T : TH) : Prop :=
  ∀ T1 : TH, T1 = up T 1 4 0 ((T 1 4 0) + 1) → Q T1
def wp_X4_readEnd (T : TH) (Q : TH → Prop) : Prop :=
  wp_X4_skipBlanks T (fun T1 => wp_X4_letterHere T1 (fun r3 T2 => zR r3 ∧ (r3 = 59 → (b_X4_readEnd_22 Q T2)) ∧ (¬ (r3 = 59) → (wp_X4_blame 1 (T2 1 4 0) T2 (fun T4 => b_X4_readEnd_22 Q T4)))))
set_option maxRecDepth 100000 in
theorem t_X4_readEnd_22 {G : GT} {l0 : Launch} {X : CX} (C : CT G l0 X cX4_readEnd 1 RX4 (rM 2 40)) {Q : TH → Prop} (E : EN G X none (QV G Q)) {T : TH} (h : b_X4_readEnd_22 Q T) : V G X T 22 [(0, .ref (gad G 1))] [] := by
  unfold b_X4_readEnd_22 at h
  refine v_aload_n C 0 dX4_readEnd_22 rfl ?_
  refine v_dup C dX4_readEnd_23 rfl ?_
  refine v_getI C kX4 4 rfl rfl wd_95 rfl dX4_readEnd_24 ?_
  refine v_iconst C dX4_readEnd_27 ?_
  refine v_iadd C dX4_readEnd_28 ?_
  refine v_putI C kX4 4 rfl rfl wd_95 rfl rfl (tyX4_ok 4 (by decide)) dX4_readEnd_29 ?_
  have h := h _ rfl
  exact v_vret C E dX4_readEnd_32 h
set_option maxRecDepth 100000 in
theorem s_X4_readEnd (G : GT) (l0 : Launch) {T : TH} {Q : TH → Prop} (h : wp_X4_readEnd T Q) : MT G l0 yX4_readEnd cX4_readEnd 1 none 2 40 [.ref (gad G 1)] T (QV G Q) := by
  refine mt_of G l0 (by decide) (Nat.le_of_ble_eq_true rfl) (fun X C E => ?_)
  show V G X T 0 [(0, .ref (gad G 1))] []
  unfold wp_X4_readEnd at h
  refine v_aload_n C 0 dX4_readEnd_0 rfl ?_
  refine v_cVN C kX4 rfl (s_X4_skipBlanks G l0 h) mv_X4_skipBlanks wd_379 ⟨by decide, by decide⟩ rfl rfl (Nat.le_of_ble_eq_true rfl) dX4_readEnd_1 (fun T1 h => ?_)
  refine v_aload_n C 0 dX4_readEnd_4 rfl ?_
  refine v_cVI C kX4 rfl (s_X4_letterHere G l0 h) mv_X4_letterHere wd_383 ⟨by decide, by decide⟩ rfl rfl (Nat.le_of_ble_eq_true rfl) dX4_readEnd_5 (fun r3 T2 h => ?_)
  refine v_bipush C dX4_readEnd_8 (by decide) ?_
  obtain ⟨e1, e2, e3⟩ := h
  refine v_icmp_eq (tgt := 22) C dX4_readEnd_10 (by decide) e1 ⟨by decide, by decide⟩ (fun e4 => ?_) (fun e4 => ?_)
  · have h := e2 e4
    exact v_sub [0] rfl (t_X4_readEnd_22 C E h)
  · have h := e3 e4
    refine v_aload_n C 0 dX4_readEnd_13 rfl ?_
    refine v_iconst C dX4_readEnd_14 ?_
    refine v_aload_n C 0 dX4_readEnd_15 rfl ?_
    refine v_getI C kX4 4 rfl rfl wd_95 rfl dX4_readEnd_16 ?_
    refine v_cVN C kX4 rfl (s_X4_blame G l0 h) mv_X4_blame wd_395 ⟨by decide, by decide⟩ rfl rfl (Nat.le_of_ble_eq_true rfl) dX4_readEnd_19 (fun T4 h => ?_)
    exact v_sub [0] rfl (t_X4_readEnd_22 C E h)
def wp_X4_readPerson (o1 : Nat) (T : TH) (Q : Int → TH → Prop) : Prop :=
  wp_X4_readNumber 0 ((T o1 0 0) - 1) T (fun r2 T1 => Q r2 T1)
set_option maxRecDepth 100000 in
theorem s_X4_readPerson (G : GT) (l0 : Launch) {o1 : Nat} {T : TH} {Q : Int → TH → Prop} (ho1 : clsO o1 = 3) (h : wp_X4_readPerson o1 T Q) : MT G l0 yX4_readPerson cX4_readPerson 2 (some .int) 3 63 [.ref (gad G 1), .ref (gad G o1)] T (QI G Q) := by
  refine mt_of G l0 (by decide) (Nat.le_of_ble_eq_true rfl) (fun X C E => ?_)
  show V G X T 0 [(0, .ref (gad G 1)), (1, .ref (gad G o1))] []
  unfold wp_X4_readPerson at h
  refine v_aload_n C 0 dX4_readPerson_0 rfl ?_
  refine v_iconst C dX4_readPerson_1 ?_
  refine v_aload_n C 1 dX4_readPerson_2 rfl ?_
  refine v_getI C kX3 0 ho1 rfl wd_121 rfl dX4_readPerson_3 ?_
  refine v_iconst C dX4_readPerson_6 ?_
  refine v_isub C dX4_readPerson_7 ?_
  refine v_cVI C kX4 rfl (s_X4_readNumber G l0 h) mv_X4_readNumber wd_403 ⟨by decide, by decide⟩ rfl rfl (Nat.le_of_ble_eq_true rfl) dX4_readPerson_8 (fun r2 T1 h => ?_)
  exact v_iret C E dX4_readPerson_11 h
def wp_X4_readFact (o1 : Nat) (T : TH) (Q : TH → Prop) : Prop :=
  wp_X4_readPerson o1 T (fun r2 T1 => wp_X4_readNumber 1 9 T1 (fun r4 T3 => wp_X4_readNumber 0 1 T3 (fun r6 T5 => zR (T5 1 3 0) ∧ (¬ (T5 1 3 0) = 0 → (Q T5)) ∧ ((T5 1 3 0) = 0 → (wp_X3_addFact o1 r2 r4 r6 T5 (fun T7 => Q T7))))))
set_option maxRecDepth 100000 in
theorem s_X4_readFact (G : GT) (l0 : Launch) {o1 : Nat} {T : TH} {Q : TH → Prop} (ho1 : clsO o1 = 3) (h : wp_X4_readFact o1 T Q) : MT G l0 yX4_readFact cX4_readFact 5 none 4 84 [.ref (gad G 1), .ref (gad G o1)] T (QV G Q) := by
  refine mt_of G l0 (by decide) (Nat.le_of_ble_eq_true rfl) (fun X C E => ?_)
  show V G X T 0 [(0, .ref (gad G 1)), (1, .ref (gad G o1))] []
  unfold wp_X4_readFact at h
  refine v_aload_n C 0 dX4_readFact_0 rfl ?_
  refine v_aload_n C 1 dX4_readFact_1 rfl ?_
  refine v_cVI C kX4 rfl (s_X4_readPerson G l0 ho1 h) mv_X4_readPerson wd_414 ⟨by decide, by decide⟩ rfl rfl (Nat.le_of_ble_eq_true rfl) dX4_readFact_2 (fun r2 T1 h => ?_)
  refine v_istore_n C dX4_readFact_5 rfl (by decide) ?_
  refine v_aload_n C 1 dX4_readFact_6 rfl ?_
  refine v_iconst C dX4_readFact_7 ?_
  refine v_bipush C dX4_readFact_8 (by decide) ?_
  refine v_cVI C kX4 rfl (s_X4_readNumber G l0 h) mv_X4_readNumber wd_403 ⟨by decide, by decide⟩ rfl rfl (Nat.le_of_ble_eq_true rfl) dX4_readFact_10 (fun r4 T3 h => ?_)
  refine v_istore_n C dX4_readFact_13 rfl (by decide) ?_
  refine v_aload_n C 2 dX4_readFact_14 rfl ?_
  refine v_iconst C dX4_readFact_15 ?_
  refine v_iconst C dX4_readFact_16 ?_
  refine v_cVI C kX4 rfl (s_X4_readNumber G l0 h) mv_X4_readNumber wd_403 ⟨by decide, by decide⟩ rfl rfl (Nat.le_of_ble_eq_true rfl) dX4_readFact_17 (fun r6 T5 h => ?_)
  refine v_istore C dX4_readFact_20 (by decide) ?_
  refine v_aload_n C 3 dX4_readFact_22 rfl ?_
  refine v_getI C kX4 3 rfl rfl wd_94 rfl dX4_readFact_23 ?_
  obtain ⟨e1, e2, e3⟩ := h
  refine v_if_ne (tgt := 37) C dX4_readFact_26 (by decide) e1 (fun e4 => ?_) (fun e4 => ?_)
  · have h := e2 e4
    exact v_vret C E dX4_readFact_37 h
  · have h := e3 e4
    refine v_aload_n C 4 dX4_readFact_29 rfl ?_
    refine v_iload_n C 2 dX4_readFact_30 rfl ?_
    refine v_iload_n C 1 dX4_readFact_31 rfl ?_
    refine v_iload C 0 dX4_readFact_32 rfl ?_
    refine v_cVN C kX3 ho1 (s_X3_addFact G l0 ho1 h) mv_X3_addFact wd_418 ⟨by decide, by decide⟩ rfl rfl (Nat.le_of_ble_eq_true rfl) dX4_readFact_34 (fun T7 h => ?_)
    exact v_vret C E dX4_readFact_37 h
def b_X4_readFriendship_46 (o1 : Nat) (Q : TH → Prop) (v2 : Int) (v3 : Int) (T : TH) : Prop :=
  zR (T 1 3 0) ∧ (¬ (T 1 3 0) = 0 → (Q T)) ∧ ((T 1 3 0) = 0 → (wp_X3_addFriendship o1 v2 v3 T (fun T1 => Q T1)))
def b_X4_readFriendship_37 (o1 : Nat) (Q : TH → Prop) (v2 : Int) (v3 : Int) (T : TH) : Prop :=
  wp_X4_blame 4 (T 1 5 0) T (fun T1 => b_X4_readFriendship_46 o1 Q v2 v3 T1)
def wp_X4_readFriendship (o1 : Nat) (T : TH) (Q : TH → Prop) : Prop :=
  wp_X4_readPerson o1 T (fun r2 T1 => wp_X4_readPerson o1 T1 (fun r4 T3 => zR (T3 1 3 0) ∧ (¬ (T3 1 3 0) = 0 → (b_X4_readFriendship_46 o1 Q r2 r4 T3)) ∧ ((T3 1 3 0) = 0 → (zR r2 ∧ zR r4 ∧ (r2 = r4 → (b_X4_readFriendship_37 o1 Q r2 r4 T3)) ∧ (¬ (r2 = r4) → (0 ≤ r2 ∧ r2 < 7 ∧ zR (zand (zshr (T3 o1 12 r2) r4) 1) ∧ ((zand (zshr (T3 o1 12 r2) r4) 1) = 0 → (b_X4_readFriendship_46 o1 Q r2 r4 T3)) ∧ (¬ ((zand (zshr (T3 o1 12 r2) r4) 1) = 0) → (b_X4_readFriendship_37 o1 Q r2 r4 T3))))))))
set_option maxRecDepth 100000 in
theorem t_X4_readFriendship_46 {G : GT} {l0 : Launch} {X : CX} (C : CT G l0 X cX4_readFriendship 4 RX4 (rM 4 84)) {Q : TH → Prop} (E : EN G X none (QV G Q)) {o1 : Nat} (ho1 : clsO o1 = 3) {v2 : Int} {v3 : Int} {T : TH} (h : b_X4_readFriendship_46 o1 Q v2 v3 T) : V G X T 46 [(0, .ref (gad G 1)), (1, .ref (gad G o1)), (2, .int (zI v2)), (3, .int (zI v3))] [] := by
  unfold b_X4_readFriendship_46 at h
  refine v_aload_n C 0 dX4_readFriendship_46 rfl ?_
  refine v_getI C kX4 3 rfl rfl wd_94 rfl dX4_readFriendship_47 ?_
  obtain ⟨e1, e2, e3⟩ := h
  refine v_if_ne (tgt := 59) C dX4_readFriendship_50 (by decide) e1 (fun e4 => ?_) (fun e4 => ?_)
  · have h := e2 e4
    exact v_vret C E dX4_readFriendship_59 h
  · have h := e3 e4
    refine v_aload_n C 1 dX4_readFriendship_53 rfl ?_
    refine v_iload_n C 2 dX4_readFriendship_54 rfl ?_
    refine v_iload_n C 3 dX4_readFriendship_55 rfl ?_
    refine v_cVN C kX3 ho1 (s_X3_addFriendship G l0 ho1 h) mv_X3_addFriendship wd_434 ⟨by decide, by decide⟩ rfl rfl (Nat.le_of_ble_eq_true rfl) dX4_readFriendship_56 (fun T1 h => ?_)
    exact v_vret C E dX4_readFriendship_59 h
set_option maxRecDepth 100000 in
theorem t_X4_readFriendship_37 {G : GT} {l0 : Launch} {X : CX} (C : CT G l0 X cX4_readFriendship 4 RX4 (rM 4 84)) {Q : TH → Prop} (E : EN G X none (QV G Q)) {o1 : Nat} (ho1 : clsO o1 = 3) {v2 : Int} {v3 : Int} {T : TH} (h : b_X4_readFriendship_37 o1 Q v2 v3 T) : V G X T 37 [(0, .ref (gad G 1)), (1, .ref (gad G o1)), (2, .int (zI v2)), (3, .int (zI v3))] [] := by
  unfold b_X4_readFriendship_37 at h
  refine v_aload_n C 0 dX4_readFriendship_37 rfl ?_
  refine v_iconst C dX4_readFriendship_38 ?_
  refine v_aload_n C 0 dX4_readFriendship_39 rfl ?_
  refine v_getI C kX4 5 rfl rfl wd_96 rfl dX4_readFriendship_40 ?_
  refine v_cVN C kX4 rfl (s_X4_blame G l0 h) mv_X4_blame wd_395 ⟨by decide, by decide⟩ rfl rfl (Nat.le_of_ble_eq_true rfl) dX4_readFriendship_43 (fun T1 h => ?_)
  exact v_sub [0, 1, 2, 3] rfl (t_X4_readFriendship_46 C E ho1 h)
set_option maxRecDepth 100000 in
theorem s_X4_readFriendship (G : GT) (l0 : Launch) {o1 : Nat} {T : TH} {Q : TH → Prop} (ho1 : clsO o1 = 3) (h : wp_X4_readFriendship o1 T Q) : MT G l0 yX4_readFriendship cX4_readFriendship 4 none 4 84 [.ref (gad G 1), .ref (gad G o1)] T (QV G Q) := by
  refine mt_of G l0 (by decide) (Nat.le_of_ble_eq_true rfl) (fun X C E => ?_)
  show V G X T 0 [(0, .ref (gad G 1)), (1, .ref (gad G o1))] []
  unfold wp_X4_readFriendship at h
  refine v_aload_n C 0 dX4_readFriendship_0 rfl ?_
  refine v_aload_n C 1 dX4_readFriendship_1 rfl ?_
  refine v_cVI C kX4 rfl (s_X4_readPerson G l0 ho1 h) mv_X4_readPerson wd_414 ⟨by decide, by decide⟩ rfl rfl (Nat.le_of_ble_eq_true rfl) dX4_readFriendship_2 (fun r2 T1 h => ?_)
  refine v_istore_n C dX4_readFriendship_5 rfl (by decide) ?_
  refine v_aload_n C 1 dX4_readFriendship_6 rfl ?_
  refine v_aload_n C 2 dX4_readFriendship_7 rfl ?_
  refine v_cVI C kX4 rfl (s_X4_readPerson G l0 ho1 h) mv_X4_readPerson wd_414 ⟨by decide, by decide⟩ rfl rfl (Nat.le_of_ble_eq_true rfl) dX4_readFriendship_8 (fun r4 T3 h => ?_)
  refine v_istore_n C dX4_readFriendship_11 rfl (by decide) ?_
  refine v_aload_n C 2 dX4_readFriendship_12 rfl ?_
  refine v_getI C kX4 3 rfl rfl wd_94 rfl dX4_readFriendship_13 ?_
  obtain ⟨e1, e2, e3⟩ := h
  refine v_if_ne (tgt := 46) C dX4_readFriendship_16 (by decide) e1 (fun e4 => ?_) (fun e4 => ?_)
  · have h := e2 e4
    exact v_sub [2, 3, 1, 0] rfl (t_X4_readFriendship_46 C E ho1 h)
  · have h := e3 e4
    refine v_iload_n C 1 dX4_readFriendship_19 rfl ?_
    refine v_iload_n C 0 dX4_readFriendship_20 rfl ?_
    obtain ⟨e5, e6, e7, e8⟩ := h
    refine v_icmp_eq (tgt := 37) C dX4_readFriendship_21 (by decide) e5 e6 (fun e9 => ?_) (fun e9 => ?_)
    · have h := e7 e9
      exact v_sub [2, 3, 1, 0] rfl (t_X4_readFriendship_37 C E ho1 h)
    · have h := e8 e9
      refine v_aload_n C 3 dX4_readFriendship_24 rfl ?_
      refine v_getA C kX3 12 ho1 rfl wd_167 rfl dX4_readFriendship_25 ?_
      refine v_iload_n C 1 dX4_readFriendship_28 rfl ?_
      obtain ⟨e10, e11, h⟩ := h
      refine v_iald C (ar_of ho1 ar_3_12) dX4_readFriendship_29 e10 e11 ?_
      refine v_iload_n C 0 dX4_readFriendship_30 rfl ?_
      refine v_ishr C dX4_readFriendship_31 ?_
      refine v_iconst C dX4_readFriendship_32 ?_
      refine v_iand C dX4_readFriendship_33 ?_
      obtain ⟨e12, e13, e14⟩ := h
      refine v_if_eq (tgt := 46) C dX4_readFriendship_34 (by decide) e12 (fun e15 => ?_) (fun e15 => ?_)
      · have h := e13 e15
        exact v_sub [2, 3, 1, 0] rfl (t_X4_readFriendship_46 C E ho1 h)
      · have h := e14 e15
        exact v_sub [2, 3, 1, 0] rfl (t_X4_readFriendship_37 C E ho1 h)
def b_X4_readKnowers_39 (o1 : Nat) (Q : TH → Prop) (v2 : Int) (T : TH) : Prop :=
  wp_X3_everybody o1 T (fun r2 T1 => wp_X4_readNumber 0 r2 T1 (fun r4 T3 => zR (T3 1 3 0) ∧ (¬ (T3 1 3 0) = 0 → (Q T3)) ∧ ((T3 1 3 0) = 0 → (∀ T5 : TH, T5 = up T3 o1 7 0 (zor (T3 o1 7 0) (zshl 1 v2)) → 0 ≤ v2 ∧ v2 < 8 ∧ ∀ T6 : TH, T6 = up T5 o1 10 v2 r4 → Q T6))))
def wp_X4_readKnowers (o1 : Nat) (T : TH) (Q : TH → Prop) : Prop :=
  wp_X4_readNumber 0 ((T o1 1 0) - 1) T (fun r2 T1 => zR (T1 1 3 0) ∧ (¬ (T1 1 3 0) = 0 → (b_X4_readKnowers_39 o1 Q r2 T1)) ∧ ((T1 1 3 0) = 0 → (zR (zand (zshr (T1 o1 7 0) r2) 1) ∧ ((zand (zshr (T1 o1 7 0) r2) 1) = 0 → (b_X4_readKnowers_39 o1 Q r2 T1)) ∧ (¬ ((zand (zshr (T1 o1 7 0) r2) 1) = 0) → (wp_X4_blame 4 (T1 1 5 0) T1 (fun T3 => b_X4_readKnowers_39 o1 Q r2 T3))))))
set_option maxRecDepth 100000 in
theorem t_X4_readKnowers_39 {G : GT} {l0 : Launch} {X : CX} (C : CT G l0 X cX4_readKnowers 4 RX4 (rM 3 63)) {Q : TH → Prop} (E : EN G X none (QV G Q)) {o1 : Nat} (ho1 : clsO o1 = 3) {v2 : Int} {T : TH} (h : b_X4_readKnowers_39 o1 Q v2 T) : V G X T 39 [(0, .ref (gad G 1)), (1, .ref (gad G o1)), (2, .int (zI v2))] [] := by
  unfold b_X4_readKnowers_39 at h
  refine v_aload_n C 0 dX4_readKnowers_39 rfl ?_
  refine v_iconst C dX4_readKnowers_40 ?_
  refine v_aload_n C 1 dX4_readKnowers_41 rfl ?_
  refine v_cVI C kX3 ho1 (s_X3_everybody G l0 ho1 h) mv_X3_everybody wd_426 ⟨by decide, by decide⟩ rfl rfl (Nat.le_of_ble_eq_true rfl) dX4_readKnowers_42 (fun r2 T1 h => ?_)
  refine v_cVI C kX4 rfl (s_X4_readNumber G l0 h) mv_X4_readNumber wd_403 ⟨by decide, by decide⟩ rfl rfl (Nat.le_of_ble_eq_true rfl) dX4_readKnowers_45 (fun r4 T3 h => ?_)
  refine v_istore_n C dX4_readKnowers_48 rfl (by decide) ?_
  refine v_aload_n C 1 dX4_readKnowers_49 rfl ?_
  refine v_getI C kX4 3 rfl rfl wd_94 rfl dX4_readKnowers_50 ?_
  obtain ⟨e1, e2, e3⟩ := h
  refine v_if_ne (tgt := 75) C dX4_readKnowers_53 (by decide) e1 (fun e4 => ?_) (fun e4 => ?_)
  · have h := e2 e4
    exact v_vret C E dX4_readKnowers_75 h
  · have h := e3 e4
    refine v_aload_n C 2 dX4_readKnowers_56 rfl ?_
    refine v_dup C dX4_readKnowers_57 rfl ?_
    refine v_getI C kX3 7 ho1 rfl wd_148 rfl dX4_readKnowers_58 ?_
    refine v_iconst C dX4_readKnowers_61 ?_
    refine v_iload_n C 3 dX4_readKnowers_62 rfl ?_
    refine v_ishl C dX4_readKnowers_63 ?_
    refine v_ior C dX4_readKnowers_64 ?_
    refine v_putI C kX3 7 ho1 rfl wd_148 rfl rfl (tyX3_ok 7 (by decide)) dX4_readKnowers_65 ?_
    have h := h _ rfl
    refine v_aload_n C 2 dX4_readKnowers_68 rfl ?_
    refine v_getA C kX3 10 ho1 rfl wd_160 rfl dX4_readKnowers_69 ?_
    refine v_iload_n C 3 dX4_readKnowers_72 rfl ?_
    refine v_iload_n C 0 dX4_readKnowers_73 rfl ?_
    obtain ⟨e5, e6, h⟩ := h
    refine v_iast C (ar_of ho1 ar_3_10) dX4_readKnowers_74 e5 e6 ?_
    have h := h _ rfl
    exact v_vret C E dX4_readKnowers_75 h
set_option maxRecDepth 100000 in
theorem s_X4_readKnowers (G : GT) (l0 : Launch) {o1 : Nat} {T : TH} {Q : TH → Prop} (ho1 : clsO o1 = 3) (h : wp_X4_readKnowers o1 T Q) : MT G l0 yX4_readKnowers cX4_readKnowers 4 none 3 63 [.ref (gad G 1), .ref (gad G o1)] T (QV G Q) := by
  refine mt_of G l0 (by decide) (Nat.le_of_ble_eq_true rfl) (fun X C E => ?_)
  show V G X T 0 [(0, .ref (gad G 1)), (1, .ref (gad G o1))] []
  unfold wp_X4_readKnowers at h
  refine v_aload_n C 0 dX4_readKnowers_0 rfl ?_
  refine v_iconst C dX4_readKnowers_1 ?_
  refine v_aload_n C 1 dX4_readKnowers_2 rfl ?_
  refine v_getI C kX3 1 ho1 rfl wd_129 rfl dX4_readKnowers_3 ?_
  refine v_iconst C dX4_readKnowers_6 ?_
  refine v_isub C dX4_readKnowers_7 ?_
  refine v_cVI C kX4 rfl (s_X4_readNumber G l0 h) mv_X4_readNumber wd_403 ⟨by decide, by decide⟩ rfl rfl (Nat.le_of_ble_eq_true rfl) dX4_readKnowers_8 (fun r2 T1 h => ?_)
  refine v_istore_n C dX4_readKnowers_11 rfl (by decide) ?_
  refine v_aload_n C 1 dX4_readKnowers_12 rfl ?_
  refine v_getI C kX4 3 rfl rfl wd_94 rfl dX4_readKnowers_13 ?_
  obtain ⟨e1, e2, e3⟩ := h
  refine v_if_ne (tgt := 39) C dX4_readKnowers_16 (by decide) e1 (fun e4 => ?_) (fun e4 => ?_)
  · have h := e2 e4
    exact v_sub [1, 2, 0] rfl (t_X4_readKnowers_39 C E ho1 h)
  · have h := e3 e4
    refine v_aload_n C 2 dX4_readKnowers_19 rfl ?_
    refine v_getI C kX3 7 ho1 rfl wd_148 rfl dX4_readKnowers_20 ?_
    refine v_iload_n C 0 dX4_readKnowers_23 rfl ?_
    refine v_ishr C dX4_readKnowers_24 ?_
    refine v_iconst C dX4_readKnowers_25 ?_
    refine v_iand C dX4_readKnowers_26 ?_
    obtain ⟨e5, e6, e7⟩ := h
    refine v_if_eq (tgt := 39) C dX4_readKnowers_27 (by decide) e5 (fun e8 => ?_) (fun e8 => ?_)
    · have h := e6 e8
      exact v_sub [1, 2, 0] rfl (t_X4_readKnowers_39 C E ho1 h)
    · have h := e7 e8
      refine v_aload_n C 1 dX4_readKnowers_30 rfl ?_
      refine v_iconst C dX4_readKnowers_31 ?_
      refine v_aload_n C 1 dX4_readKnowers_32 rfl ?_
      refine v_getI C kX4 5 rfl rfl wd_96 rfl dX4_readKnowers_33 ?_
      refine v_cVN C kX4 rfl (s_X4_blame G l0 h) mv_X4_blame wd_395 ⟨by decide, by decide⟩ rfl rfl (Nat.le_of_ble_eq_true rfl) dX4_readKnowers_36 (fun T3 h => ?_)
      exact v_sub [1, 2, 0] rfl (t_X4_readKnowers_39 C E ho1 h)
def wp_X4_readMemory (o1 : Nat) (T : TH) (Q : TH → Prop) : Prop :=
  wp_X4_readNumber 1 99 T (fun r2 T1 => zR (T1 1 3 0) ∧ (¬ (T1 1 3 0) = 0 → (Q T1)) ∧ ((T1 1 3 0) = 0 → (∀ T3 : TH, T3 = up T1 o1 4 0 r2 → Q T3)))
set_option maxRecDepth 100000 in
theorem s_X4_readMemory (G : GT) (l0 : Launch) {o1 : Nat} {T : TH} {Q : TH → Prop} (ho1 : clsO o1 = 3) (h : wp_X4_readMemory o1 T Q) : MT G l0 yX4_readMemory cX4_readMemory 3 none 3 63 [.ref (gad G 1), .ref (gad G o1)] T (QV G Q) := by
  refine mt_of G l0 (by decide) (Nat.le_of_ble_eq_true rfl) (fun X C E => ?_)
  show V G X T 0 [(0, .ref (gad G 1)), (1, .ref (gad G o1))] []
  unfold wp_X4_readMemory at h
  refine v_aload_n C 0 dX4_readMemory_0 rfl ?_
  refine v_iconst C dX4_readMemory_1 ?_
  refine v_bipush C dX4_readMemory_2 (by decide) ?_
  refine v_cVI C kX4 rfl (s_X4_readNumber G l0 h) mv_X4_readNumber wd_403 ⟨by decide, by decide⟩ rfl rfl (Nat.le_of_ble_eq_true rfl) dX4_readMemory_4 (fun r2 T1 h => ?_)
  refine v_istore_n C dX4_readMemory_7 rfl (by decide) ?_
  refine v_aload_n C 1 dX4_readMemory_8 rfl ?_
  refine v_getI C kX4 3 rfl rfl wd_94 rfl dX4_readMemory_9 ?_
  obtain ⟨e1, e2, e3⟩ := h
  refine v_if_ne (tgt := 20) C dX4_readMemory_12 (by decide) e1 (fun e4 => ?_) (fun e4 => ?_)
  · have h := e2 e4
    exact v_vret C E dX4_readMemory_20 h
  · have h := e3 e4
    refine v_aload_n C 2 dX4_readMemory_15 rfl ?_
    refine v_iload_n C 0 dX4_readMemory_16 rfl ?_
    refine v_putI C kX3 4 ho1 rfl wd_138 rfl rfl (tyX3_ok 4 (by decide)) dX4_readMemory_17 ?_
    have h := h _ rfl
    exact v_vret C E dX4_readMemory_20 h
def wp_X4_readPeople (o1 : Nat) (T : TH) (Q : TH → Prop) : Prop :=
  wp_X4_readNumber 1 7 T (fun r2 T1 => zR (T1 1 3 0) ∧ (¬ (T1 1 3 0) = 0 → (Q T1)) ∧ ((T1 1 3 0) = 0 → (∀ T3 : TH, T3 = up T1 o1 0 0 r2 → Q T3)))
set_option maxRecDepth 100000 in
theorem s_X4_readPeople (G : GT) (l0 : Launch) {o1 : Nat} {T : TH} {Q : TH → Prop} (ho1 : clsO o1 = 3) (h : wp_X4_readPeople o1 T Q) : MT G l0 yX4_readPeople cX4_readPeople 3 none 3 63 [.ref (gad G 1), .ref (gad G o1)] T (QV G Q) := by
  refine mt_of G l0 (by decide) (Nat.le_of_ble_eq_true rfl) (fun X C E => ?_)
  show V G X T 0 [(0, .ref (gad G 1)), (1, .ref (gad G o1))] []
  unfold wp_X4_readPeople at h
  refine v_aload_n C 0 dX4_readPeople_0 rfl ?_
  refine v_iconst C dX4_readPeople_1 ?_
  refine v_bipush C dX4_readPeople_2 (by decide) ?_
  refine v_cVI C kX4 rfl (s_X4_readNumber G l0 h) mv_X4_readNumber wd_403 ⟨by decide, by decide⟩ rfl rfl (Nat.le_of_ble_eq_true rfl) dX4_readPeople_4 (fun r2 T1 h => ?_)
  refine v_istore_n C dX4_readPeople_7 rfl (by decide) ?_
  refine v_aload_n C 1 dX4_readPeople_8 rfl ?_
  refine v_getI C kX4 3 rfl rfl wd_94 rfl dX4_readPeople_9 ?_
  obtain ⟨e1, e2, e3⟩ := h
  refine v_if_ne (tgt := 20) C dX4_readPeople_12 (by decide) e1 (fun e4 => ?_) (fun e4 => ?_)
  · have h := e2 e4
    exact v_vret C E dX4_readPeople_20 h
  · have h := e3 e4
    refine v_aload_n C 2 dX4_readPeople_15 rfl ?_
    refine v_iload_n C 0 dX4_readPeople_16 rfl ?_
    refine v_putI C kX3 0 ho1 rfl wd_121 rfl rfl (tyX3_ok 0 (by decide)) dX4_readPeople_17 ?_
    have h := h _ rfl
    exact v_vret C E dX4_readPeople_20 h
def b_X4_readQuiet_30 (o1 : Nat) (Q : TH → Prop) (v2 : Int) (T : TH) : Prop :=
  zR (T 1 3 0) ∧ (¬ (T 1 3 0) = 0 → (Q T)) ∧ ((T 1 3 0) = 0 → (∀ T1 : TH, T1 = up T o1 5 0 (zor (T o1 5 0) (zshl 1 v2)) → Q T1))
def wp_X4_readQuiet (o1 : Nat) (T : TH) (Q : TH → Prop) : Prop :=
  wp_X4_readPerson o1 T (fun r2 T1 => zR (T1 1 3 0) ∧ (¬ (T1 1 3 0) = 0 → (b_X4_readQuiet_30 o1 Q r2 T1)) ∧ ((T1 1 3 0) = 0 → (wp_X3_isQuiet o1 r2 T1 (fun p4 T3 => (p4 = false → (b_X4_readQuiet_30 o1 Q r2 T3)) ∧ (p4 = true → (wp_X4_blame 4 (T3 1 5 0) T3 (fun T5 => b_X4_readQuiet_30 o1 Q r2 T5)))))))
set_option maxRecDepth 100000 in
theorem t_X4_readQuiet_30 {G : GT} {l0 : Launch} {X : CX} (C : CT G l0 X cX4_readQuiet 3 RX4 (rM 4 84)) {Q : TH → Prop} (E : EN G X none (QV G Q)) {o1 : Nat} (ho1 : clsO o1 = 3) {v2 : Int} {T : TH} (h : b_X4_readQuiet_30 o1 Q v2 T) : V G X T 30 [(0, .ref (gad G 1)), (1, .ref (gad G o1)), (2, .int (zI v2))] [] := by
  unfold b_X4_readQuiet_30 at h
  refine v_aload_n C 0 dX4_readQuiet_30 rfl ?_
  refine v_getI C kX4 3 rfl rfl wd_94 rfl dX4_readQuiet_31 ?_
  obtain ⟨e1, e2, e3⟩ := h
  refine v_if_ne (tgt := 49) C dX4_readQuiet_34 (by decide) e1 (fun e4 => ?_) (fun e4 => ?_)
  · have h := e2 e4
    exact v_vret C E dX4_readQuiet_49 h
  · have h := e3 e4
    refine v_aload_n C 1 dX4_readQuiet_37 rfl ?_
    refine v_dup C dX4_readQuiet_38 rfl ?_
    refine v_getI C kX3 5 ho1 rfl wd_142 rfl dX4_readQuiet_39 ?_
    refine v_iconst C dX4_readQuiet_42 ?_
    refine v_iload_n C 2 dX4_readQuiet_43 rfl ?_
    refine v_ishl C dX4_readQuiet_44 ?_
    refine v_ior C dX4_readQuiet_45 ?_
    refine v_putI C kX3 5 ho1 rfl wd_142 rfl rfl (tyX3_ok 5 (by decide)) dX4_readQuiet_46 ?_
    have h := h _ rfl
    exact v_vret C E dX4_readQuiet_49 h
set_option maxRecDepth 100000 in
theorem s_X4_readQuiet (G : GT) (l0 : Launch) {o1 : Nat} {T : TH} {Q : TH → Prop} (ho1 : clsO o1 = 3) (h : wp_X4_readQuiet o1 T Q) : MT G l0 yX4_readQuiet cX4_readQuiet 3 none 4 84 [.ref (gad G 1), .ref (gad G o1)] T (QV G Q) := by
  refine mt_of G l0 (by decide) (Nat.le_of_ble_eq_true rfl) (fun X C E => ?_)
  show V G X T 0 [(0, .ref (gad G 1)), (1, .ref (gad G o1))] []
  unfold wp_X4_readQuiet at h
  refine v_aload_n C 0 dX4_readQuiet_0 rfl ?_
  refine v_aload_n C 1 dX4_readQuiet_1 rfl ?_
  refine v_cVI C kX4 rfl (s_X4_readPerson G l0 ho1 h) mv_X4_readPerson wd_414 ⟨by decide, by decide⟩ rfl rfl (Nat.le_of_ble_eq_true rfl) dX4_readQuiet_2 (fun r2 T1 h => ?_)
  refine v_istore_n C dX4_readQuiet_5 rfl (by decide) ?_
  refine v_aload_n C 1 dX4_readQuiet_6 rfl ?_
  refine v_getI C kX4 3 rfl rfl wd_94 rfl dX4_readQuiet_7 ?_
  obtain ⟨e1, e2, e3⟩ := h
  refine v_if_ne (tgt := 30) C dX4_readQuiet_10 (by decide) e1 (fun e4 => ?_) (fun e4 => ?_)
  · have h := e2 e4
    exact v_sub [1, 2, 0] rfl (t_X4_readQuiet_30 C E ho1 h)
  · have h := e3 e4
    refine v_aload_n C 2 dX4_readQuiet_13 rfl ?_
    refine v_iload_n C 0 dX4_readQuiet_14 rfl ?_
    refine v_cVZ C kX3 ho1 (s_X3_isQuiet G l0 ho1 h) mv_X3_isQuiet wd_442 ⟨by decide, by decide⟩ rfl rfl (Nat.le_of_ble_eq_true rfl) dX4_readQuiet_15 (fun p4 T3 h => ?_)
    obtain ⟨e5, e6⟩ := h
    refine v_ifz_eq (tgt := 30) C dX4_readQuiet_18 (by decide) (fun e7 => ?_) (fun e7 => ?_)
    · have h := e5 e7
      exact v_sub [1, 2, 0] rfl (t_X4_readQuiet_30 C E ho1 h)
    · have h := e6 e7
      refine v_aload_n C 1 dX4_readQuiet_21 rfl ?_
      refine v_iconst C dX4_readQuiet_22 ?_
      refine v_aload_n C 1 dX4_readQuiet_23 rfl ?_
      refine v_getI C kX4 5 rfl rfl wd_96 rfl dX4_readQuiet_24 ?_
      refine v_cVN C kX4 rfl (s_X4_blame G l0 h) mv_X4_blame wd_395 ⟨by decide, by decide⟩ rfl rfl (Nat.le_of_ble_eq_true rfl) dX4_readQuiet_27 (fun T5 h => ?_)
      exact v_sub [1, 2, 0] rfl (t_X4_readQuiet_30 C E ho1 h)
def b_X4_readClause_149 (o1 : Nat) (Q : TH → Prop) (T : TH) : Prop :=
  wp_X4_readEnd T (fun T1 => Q T1)
def wp_X4_readClause (o1 : Nat) (T : TH) (Q : TH → Prop) : Prop :=
  wp_X4_letterHere T (fun r2 T1 => wp_X4_faultOfWord o1 r2 T1 (fun r4 T3 => zR r4 ∧ (r4 = 0 → (∀ T5 : TH, T5 = up T3 1 4 0 ((T3 1 4 0) + 1) → zR r2 ∧ (r2 = 98 → (wp_X4_readBridge o1 T5 (fun T6 => b_X4_readClause_149 o1 Q T6))) ∧ (r2 = 102 → (wp_X4_readFact o1 T5 (fun T7 => b_X4_readClause_149 o1 Q T7))) ∧ (r2 = 107 → (wp_X4_readKnowers o1 T5 (fun T8 => b_X4_readClause_149 o1 Q T8))) ∧ (r2 = 109 → (wp_X4_readQuiet o1 T5 (fun T9 => b_X4_readClause_149 o1 Q T9))) ∧ (r2 = 116 → (wp_X4_readPeople o1 T5 (fun T10 => b_X4_readClause_149 o1 Q T10))) ∧ (r2 = 119 → (wp_X4_readFriendship o1 T5 (fun T11 => b_X4_readClause_149 o1 Q T11))) ∧ (¬ r2 = 98 → ¬ r2 = 102 → ¬ r2 = 107 → ¬ r2 = 109 → ¬ r2 = 116 → ¬ r2 = 119 → (wp_X4_readMemory o1 T5 (fun T12 => b_X4_readClause_149 o1 Q T12))))) ∧ (¬ (r4 = 0) → (wp_X4_blame r4 (T3 1 4 0) T3 (fun T13 => Q T13)))))
set_option maxRecDepth 100000 in
theorem t_X4_readClause_149 {G : GT} {l0 : Launch} {X : CX} (C : CT G l0 X cX4_readClause 4 RX4 (rM 5 108)) {Q : TH → Prop} (E : EN G X none (QV G Q)) {o1 : Nat} (ho1 : clsO o1 = 3) {T : TH} (h : b_X4_readClause_149 o1 Q T) : V G X T 149 [(0, .ref (gad G 1)), (1, .ref (gad G o1))] [] := by
  unfold b_X4_readClause_149 at h
  refine v_aload_n C 0 dX4_readClause_149 rfl ?_
  refine v_cVN C kX4 rfl (s_X4_readEnd G l0 h) mv_X4_readEnd wd_454 ⟨by decide, by decide⟩ rfl rfl (Nat.le_of_ble_eq_true rfl) dX4_readClause_150 (fun T1 h => ?_)
  exact v_vret C E dX4_readClause_153 h
set_option maxRecDepth 100000 in
theorem s_X4_readClause (G : GT) (l0 : Launch) {o1 : Nat} {T : TH} {Q : TH → Prop} (ho1 : clsO o1 = 3) (h : wp_X4_readClause o1 T Q) : MT G l0 yX4_readClause cX4_readClause 4 none 5 108 [.ref (gad G 1), .ref (gad G o1)] T (QV G Q) := by
  refine mt_of G l0 (by decide) (Nat.le_of_ble_eq_true rfl) (fun X C E => ?_)
  show V G X T 0 [(0, .ref (gad G 1)), (1, .ref (gad G o1))] []
  unfold wp_X4_readClause at h
  refine v_aload_n C 0 dX4_readClause_0 rfl ?_
  refine v_cVI C kX4 rfl (s_X4_letterHere G l0 h) mv_X4_letterHere wd_383 ⟨by decide, by decide⟩ rfl rfl (Nat.le_of_ble_eq_true rfl) dX4_readClause_1 (fun r2 T1 h => ?_)
  refine v_istore_n C dX4_readClause_4 rfl (by decide) ?_
  refine v_aload_n C 1 dX4_readClause_5 rfl ?_
  refine v_aload_n C 2 dX4_readClause_6 rfl ?_
  refine v_iload_n C 0 dX4_readClause_7 rfl ?_
  refine v_cVI C kX4 rfl (s_X4_faultOfWord G l0 ho1 h) mv_X4_faultOfWord wd_391 ⟨by decide, by decide⟩ rfl rfl (Nat.le_of_ble_eq_true rfl) dX4_readClause_8 (fun r4 T3 h => ?_)
  refine v_istore_n C dX4_readClause_11 rfl (by decide) ?_
  refine v_iload_n C 0 dX4_readClause_12 rfl ?_
  obtain ⟨e1, e2, e3⟩ := h
  refine v_if_eq (tgt := 26) C dX4_readClause_13 (by decide) e1 (fun e4 => ?_) (fun e4 => ?_)
  · have h := e2 e4
    refine v_aload_n C 2 dX4_readClause_26 rfl ?_
    refine v_dup C dX4_readClause_27 rfl ?_
    refine v_getI C kX4 4 rfl rfl wd_95 rfl dX4_readClause_28 ?_
    refine v_iconst C dX4_readClause_31 ?_
    refine v_iadd C dX4_readClause_32 ?_
    refine v_putI C kX4 4 rfl rfl wd_95 rfl rfl (tyX4_ok 4 (by decide)) dX4_readClause_33 ?_
    have h := h _ rfl
    refine v_iload_n C 1 dX4_readClause_36 rfl ?_
    obtain ⟨e5, h⟩ := h
    obtain ⟨e6, e7, e8, e9, e10, e11, e12⟩ := h
    by_cases e13 : r2 = 98
    · have h := e6 e13
      refine v_look (off := 99) (tgt := 136) C dX4_readClause_37 e5 (by decide) (by rw [e13]; decide) (by decide) ?_
      refine v_aload_n C 2 dX4_readClause_136 rfl ?_
      refine v_aload_n C 3 dX4_readClause_137 rfl ?_
      refine v_cVN C kX4 rfl (s_X4_readBridge G l0 ho1 h) mv_X4_readBridge wd_446 ⟨by decide, by decide⟩ rfl rfl (Nat.le_of_ble_eq_true rfl) dX4_readClause_138 (fun T6 h => ?_)
      refine v_goto (tgt := 149) C dX4_readClause_141 (by decide) ?_
      exact v_sub [2, 3] rfl (t_X4_readClause_149 C E ho1 h)
    by_cases e14 : r2 = 102
    · have h := e7 e14
      refine v_look (off := 67) (tgt := 104) C dX4_readClause_37 e5 (by decide) (by rw [e14]; decide) (by decide) ?_
      refine v_aload_n C 2 dX4_readClause_104 rfl ?_
      refine v_aload_n C 3 dX4_readClause_105 rfl ?_
      refine v_cVN C kX4 rfl (s_X4_readFact G l0 ho1 h) mv_X4_readFact wd_410 ⟨by decide, by decide⟩ rfl rfl (Nat.le_of_ble_eq_true rfl) dX4_readClause_106 (fun T7 h => ?_)
      refine v_goto (tgt := 149) C dX4_readClause_109 (by decide) ?_
      exact v_sub [2, 3] rfl (t_X4_readClause_149 C E ho1 h)
    by_cases e15 : r2 = 107
    · have h := e8 e15
      refine v_look (off := 75) (tgt := 112) C dX4_readClause_37 e5 (by decide) (by rw [e15]; decide) (by decide) ?_
      refine v_aload_n C 2 dX4_readClause_112 rfl ?_
      refine v_aload_n C 3 dX4_readClause_113 rfl ?_
      refine v_cVN C kX4 rfl (s_X4_readKnowers G l0 ho1 h) mv_X4_readKnowers wd_422 ⟨by decide, by decide⟩ rfl rfl (Nat.le_of_ble_eq_true rfl) dX4_readClause_114 (fun T8 h => ?_)
      refine v_goto (tgt := 149) C dX4_readClause_117 (by decide) ?_
      exact v_sub [2, 3] rfl (t_X4_readClause_149 C E ho1 h)
    by_cases e16 : r2 = 109
    · have h := e9 e16
      refine v_look (off := 91) (tgt := 128) C dX4_readClause_37 e5 (by decide) (by rw [e16]; decide) (by decide) ?_
      refine v_aload_n C 2 dX4_readClause_128 rfl ?_
      refine v_aload_n C 3 dX4_readClause_129 rfl ?_
      refine v_cVN C kX4 rfl (s_X4_readQuiet G l0 ho1 h) mv_X4_readQuiet wd_438 ⟨by decide, by decide⟩ rfl rfl (Nat.le_of_ble_eq_true rfl) dX4_readClause_130 (fun T9 h => ?_)
      refine v_goto (tgt := 149) C dX4_readClause_133 (by decide) ?_
      exact v_sub [2, 3] rfl (t_X4_readClause_149 C E ho1 h)
    by_cases e17 : r2 = 116
    · have h := e10 e17
      refine v_look (off := 59) (tgt := 96) C dX4_readClause_37 e5 (by decide) (by rw [e17]; decide) (by decide) ?_
      refine v_aload_n C 2 dX4_readClause_96 rfl ?_
      refine v_aload_n C 3 dX4_readClause_97 rfl ?_
      refine v_cVN C kX4 rfl (s_X4_readPeople G l0 ho1 h) mv_X4_readPeople wd_399 ⟨by decide, by decide⟩ rfl rfl (Nat.le_of_ble_eq_true rfl) dX4_readClause_98 (fun T10 h => ?_)
      refine v_goto (tgt := 149) C dX4_readClause_101 (by decide) ?_
      exact v_sub [2, 3] rfl (t_X4_readClause_149 C E ho1 h)
    by_cases e18 : r2 = 119
    · have h := e11 e18
      refine v_look (off := 83) (tgt := 120) C dX4_readClause_37 e5 (by decide) (by rw [e18]; decide) (by decide) ?_
      refine v_aload_n C 2 dX4_readClause_120 rfl ?_
      refine v_aload_n C 3 dX4_readClause_121 rfl ?_
      refine v_cVN C kX4 rfl (s_X4_readFriendship G l0 ho1 h) mv_X4_readFriendship wd_430 ⟨by decide, by decide⟩ rfl rfl (Nat.le_of_ble_eq_true rfl) dX4_readClause_122 (fun T11 h => ?_)
      refine v_goto (tgt := 149) C dX4_readClause_125 (by decide) ?_
      exact v_sub [2, 3] rfl (t_X4_readClause_149 C E ho1 h)
    have h := e12 e13 e14 e15 e16 e17 e18
    refine v_look (off := 107) (tgt := 144) C dX4_readClause_37 e5 (by decide) (by show Op.lookupswitch.offset [(98, 99), (102, 67), (107, 75), (109, 91), (116, 59), (119, 83)] _ _ = _; rw [Op.lookupswitch.offset_cons, if_neg (fun z => e13 z.symm)]; rw [Op.lookupswitch.offset_cons, if_neg (fun z => e14 z.symm)]; rw [Op.lookupswitch.offset_cons, if_neg (fun z => e15 z.symm)]; rw [Op.lookupswitch.offset_cons, if_neg (fun z => e16 z.symm)]; rw [Op.lookupswitch.offset_cons, if_neg (fun z => e17 z.symm)]; rw [Op.lookupswitch.offset_cons, if_neg (fun z => e18 z.symm)]; rfl) (by decide) ?_
    refine v_aload_n C 2 dX4_readClause_144 rfl ?_
    refine v_aload_n C 3 dX4_readClause_145 rfl ?_
    refine v_cVN C kX4 rfl (s_X4_readMemory G l0 ho1 h) mv_X4_readMemory wd_450 ⟨by decide, by decide⟩ rfl rfl (Nat.le_of_ble_eq_true rfl) dX4_readClause_146 (fun T12 h => ?_)
    exact v_sub [2, 3] rfl (t_X4_readClause_149 C E ho1 h)
  · have h := e3 e4
    refine v_aload_n C 2 dX4_readClause_16 rfl ?_
    refine v_iload_n C 0 dX4_readClause_17 rfl ?_
    refine v_aload_n C 2 dX4_readClause_18 rfl ?_
    refine v_getI C kX4 4 rfl rfl wd_95 rfl dX4_readClause_19 ?_
    refine v_cVN C kX4 rfl (s_X4_blame G l0 h) mv_X4_blame wd_395 ⟨by decide, by decide⟩ rfl rfl (Nat.le_of_ble_eq_true rfl) dX4_readClause_22 (fun T13 h => ?_)
    exact v_vret C E dX4_readClause_25 h
def h_X4_readInto_25 (o1 : Nat) (Q : Int → TH → Prop) : Nat → Int → TH → Prop
  | 0, _, _ => False
  | n + 1, v2, T => zR v2 ∧ (250 ≤ v2 → (Q (T 1 3 0) T)) ∧ (¬ (250 ≤ v2) → (zR (T 1 4 0) ∧ zR (T 1 1 0) ∧ ((T 1 1 0) ≤ (T 1 4 0) → (Q (T 1 3 0) T)) ∧ (¬ ((T 1 1 0) ≤ (T 1 4 0)) → (zR (T 1 3 0) ∧ (¬ (T 1 3 0) = 0 → (Q (T 1 3 0) T)) ∧ ((T 1 3 0) = 0 → (wp_X4_readClause o1 T (fun T1 => wp_X4_skipBlanks T1 (fun T2 => (h_X4_readInto_25 o1 Q n) (v2 + 1) T2))))))))
def wp_X4_readInto (o1 : Nat) (T : TH) (Q : Int → TH → Prop) : Prop :=
  wp_X3_clear o1 T (fun T1 => ∀ T2 : TH, T2 = up T1 1 4 0 0 → ∀ T3 : TH, T3 = up T2 1 3 0 0 → ∀ T4 : TH, T4 = up T3 1 2 0 (-1) → wp_X4_skipBlanks T4 (fun T5 => (∃ m9 : Nat, h_X4_readInto_25 o1 Q m9 0 T5)))
set_option maxRecDepth 100000 in
theorem t_X4_readInto_25 {G : GT} {l0 : Launch} {X : CX} (C : CT G l0 X cX4_readInto 3 RX4 (rM 6 131)) {Q : Int → TH → Prop} (E : EN G X (some .int) (QI G Q)) {o1 : Nat} (ho1 : clsO o1 = 3) : ∀ (n : Nat) (v2 : Int) (T : TH), h_X4_readInto_25 o1 Q n v2 T → V G X T 25 [(0, .ref (gad G 1)), (1, .ref (gad G o1)), (2, .int (zI v2))] [] := by
  intro n
  induction n with
  | zero =>
    intro v2 T h
    exact h.elim
  | succ n ih =>
    intro v2 T h
    rw [h_X4_readInto_25] at h
    refine v_iload_n C 2 dX4_readInto_25 rfl ?_
    refine v_sipush C dX4_readInto_26 (by decide) ?_
    obtain ⟨e1, e2, e3⟩ := h
    refine v_icmp_ge (tgt := 65) C dX4_readInto_29 (by decide) e1 ⟨by decide, by decide⟩ (fun e4 => ?_) (fun e4 => ?_)
    · have h := e2 e4
      refine v_aload_n C 0 dX4_readInto_65 rfl ?_
      refine v_getI C kX4 3 rfl rfl wd_94 rfl dX4_readInto_66 ?_
      exact v_iret C E dX4_readInto_69 h
    · have h := e3 e4
      refine v_aload_n C 0 dX4_readInto_32 rfl ?_
      refine v_getI C kX4 4 rfl rfl wd_95 rfl dX4_readInto_33 ?_
      refine v_aload_n C 0 dX4_readInto_36 rfl ?_
      refine v_getI C kX4 1 rfl rfl wd_90 rfl dX4_readInto_37 ?_
      obtain ⟨e5, e6, e7, e8⟩ := h
      refine v_icmp_ge (tgt := 65) C dX4_readInto_40 (by decide) e5 e6 (fun e9 => ?_) (fun e9 => ?_)
      · have h := e7 e9
        refine v_aload_n C 0 dX4_readInto_65 rfl ?_
        refine v_getI C kX4 3 rfl rfl wd_94 rfl dX4_readInto_66 ?_
        exact v_iret C E dX4_readInto_69 h
      · have h := e8 e9
        refine v_aload_n C 0 dX4_readInto_43 rfl ?_
        refine v_getI C kX4 3 rfl rfl wd_94 rfl dX4_readInto_44 ?_
        obtain ⟨e10, e11, e12⟩ := h
        refine v_if_ne (tgt := 65) C dX4_readInto_47 (by decide) e10 (fun e13 => ?_) (fun e13 => ?_)
        · have h := e11 e13
          refine v_aload_n C 0 dX4_readInto_65 rfl ?_
          refine v_getI C kX4 3 rfl rfl wd_94 rfl dX4_readInto_66 ?_
          exact v_iret C E dX4_readInto_69 h
        · have h := e12 e13
          refine v_aload_n C 0 dX4_readInto_50 rfl ?_
          refine v_aload_n C 1 dX4_readInto_51 rfl ?_
          refine v_cVN C kX4 rfl (s_X4_readClause G l0 ho1 h) mv_X4_readClause wd_387 ⟨by decide, by decide⟩ rfl rfl (Nat.le_of_ble_eq_true rfl) dX4_readInto_52 (fun T1 h => ?_)
          refine v_aload_n C 0 dX4_readInto_55 rfl ?_
          refine v_cVN C kX4 rfl (s_X4_skipBlanks G l0 h) mv_X4_skipBlanks wd_379 ⟨by decide, by decide⟩ rfl rfl (Nat.le_of_ble_eq_true rfl) dX4_readInto_56 (fun T2 h => ?_)
          refine v_iinc C 2 dX4_readInto_59 rfl (by decide) ?_
          refine v_goto (tgt := 25) C dX4_readInto_62 (by decide) ?_
          exact v_sub [1, 2, 0] rfl (ih _ _ h)
set_option maxRecDepth 100000 in
theorem s_X4_readInto (G : GT) (l0 : Launch) {o1 : Nat} {T : TH} {Q : Int → TH → Prop} (ho1 : clsO o1 = 3) (h : wp_X4_readInto o1 T Q) : MT G l0 yX4_readInto cX4_readInto 3 (some .int) 6 131 [.ref (gad G 1), .ref (gad G o1)] T (QI G Q) := by
  refine mt_of G l0 (by decide) (Nat.le_of_ble_eq_true rfl) (fun X C E => ?_)
  show V G X T 0 [(0, .ref (gad G 1)), (1, .ref (gad G o1))] []
  unfold wp_X4_readInto at h
  refine v_aload_n C 1 dX4_readInto_0 rfl ?_
  refine v_cVN C kX3 ho1 (s_X3_clear G l0 ho1 h) mv_X3_clear wd_372 ⟨by decide, by decide⟩ rfl rfl (Nat.le_of_ble_eq_true rfl) dX4_readInto_1 (fun T1 h => ?_)
  refine v_aload_n C 0 dX4_readInto_4 rfl ?_
  refine v_iconst C dX4_readInto_5 ?_
  refine v_putI C kX4 4 rfl rfl wd_95 rfl rfl (tyX4_ok 4 (by decide)) dX4_readInto_6 ?_
  have h := h _ rfl
  refine v_aload_n C 0 dX4_readInto_9 rfl ?_
  refine v_iconst C dX4_readInto_10 ?_
  refine v_putI C kX4 3 rfl rfl wd_94 rfl rfl (tyX4_ok 3 (by decide)) dX4_readInto_11 ?_
  have h := h _ rfl
  refine v_aload_n C 0 dX4_readInto_14 rfl ?_
  refine v_iconst C dX4_readInto_15 ?_
  refine v_putI C kX4 2 rfl rfl wd_92 rfl rfl (tyX4_ok 2 (by decide)) dX4_readInto_16 ?_
  have h := h _ rfl
  refine v_aload_n C 0 dX4_readInto_19 rfl ?_
  refine v_cVN C kX4 rfl (s_X4_skipBlanks G l0 h) mv_X4_skipBlanks wd_379 ⟨by decide, by decide⟩ rfl rfl (Nat.le_of_ble_eq_true rfl) dX4_readInto_20 (fun T5 h => ?_)
  refine v_iconst C dX4_readInto_23 ?_
  refine v_istore_n C dX4_readInto_24 rfl (by decide) ?_
  obtain ⟨n9, h⟩ := h
  exact v_sub [1, 2, 0] rfl (t_X4_readInto_25 C E ho1 n9 _ _ h)
def h_X5_gramsAHead_4 (o0 : Nat) (v1 : Int) (Q : Int → TH → Prop) : Nat → Int → Int → TH → Prop
  | 0, _, _, _ => False
  | n + 1, v2, v3, T => zR v3 ∧ zR (T o0 1 0) ∧ ((T o0 1 0) ≤ v3 → (zR v2 ∧ Q (zmin 72 v2) T)) ∧ (¬ ((T o0 1 0) ≤ v3) → (0 ≤ v3 ∧ v3 < 8 ∧ ∀ w1 : Int, w1 = (v2 + ((zand (zshr v1 v3) 1) * (T o0 9 v3))) → (h_X5_gramsAHead_4 o0 v1 Q n) w1 (v3 + 1) T))
def wp_X5_gramsAHead (o0 : Nat) (v1 : Int) (T : TH) (Q : Int → TH → Prop) : Prop :=
  (∃ m9 : Nat, h_X5_gramsAHead_4 o0 v1 Q m9 0 0 T)
set_option maxRecDepth 100000 in
theorem t_X5_gramsAHead_4 {G : GT} {l0 : Launch} {X : CX} (C : CT G l0 X cX5_gramsAHead 4 RX5 (rM 1 30)) {Q : Int → TH → Prop} (E : EN G X (some .int) (QI G Q)) {o0 : Nat} {v1 : Int} (ho0 : clsO o0 = 3) : ∀ (n : Nat) (v2 : Int) (v3 : Int) (T : TH), h_X5_gramsAHead_4 o0 v1 Q n v2 v3 T → V G X T 4 [(0, .ref (gad G o0)), (1, .int (zI v1)), (2, .int (zI v2)), (3, .int (zI v3))] [] := by
  intro n
  induction n with
  | zero =>
    intro v2 v3 T h
    exact h.elim
  | succ n ih =>
    intro v2 v3 T h
    rw [h_X5_gramsAHead_4] at h
    refine v_iload_n C 3 dX5_gramsAHead_4 rfl ?_
    refine v_aload_n C 0 dX5_gramsAHead_5 rfl ?_
    refine v_getI C kX3 1 ho0 rfl wd_127 rfl dX5_gramsAHead_6 ?_
    obtain ⟨e1, e2, e3, e4⟩ := h
    refine v_icmp_ge (tgt := 33) C dX5_gramsAHead_9 (by decide) e1 e2 (fun e5 => ?_) (fun e5 => ?_)
    · have h := e3 e5
      refine v_bipush C dX5_gramsAHead_33 (by decide) ?_
      refine v_iload_n C 2 dX5_gramsAHead_35 rfl ?_
      obtain ⟨e6, h⟩ := h
      refine v_mmin C ⟨by decide, by decide⟩ e6 wd_741 wd_684 wd_74 wd_685 (by decide) (Nat.le_of_ble_eq_true rfl) dX5_gramsAHead_36 ?_
      exact v_iret C E dX5_gramsAHead_39 h
    · have h := e4 e5
      refine v_iload_n C 2 dX5_gramsAHead_12 rfl ?_
      refine v_iload_n C 1 dX5_gramsAHead_13 rfl ?_
      refine v_iload_n C 3 dX5_gramsAHead_14 rfl ?_
      refine v_ishr C dX5_gramsAHead_15 ?_
      refine v_iconst C dX5_gramsAHead_16 ?_
      refine v_iand C dX5_gramsAHead_17 ?_
      refine v_aload_n C 0 dX5_gramsAHead_18 rfl ?_
      refine v_getA C kX3 9 ho0 rfl wd_155 rfl dX5_gramsAHead_19 ?_
      refine v_iload_n C 3 dX5_gramsAHead_22 rfl ?_
      obtain ⟨e7, e8, h⟩ := h
      refine v_iald C (ar_of ho0 ar_3_9) dX5_gramsAHead_23 e7 e8 ?_
      refine v_imul C dX5_gramsAHead_24 ?_
      refine v_iadd C dX5_gramsAHead_25 ?_
      refine v_istore_n C dX5_gramsAHead_26 rfl (by decide) ?_
      have h := h _ rfl
      refine v_iinc C 3 dX5_gramsAHead_27 rfl (by decide) ?_
      refine v_goto (tgt := 4) C dX5_gramsAHead_30 (by decide) ?_
      exact v_sub [2, 3, 1, 0] rfl (ih _ _ _ h)
set_option maxRecDepth 100000 in
theorem s_X5_gramsAHead (G : GT) (l0 : Launch) {o0 : Nat} {v1 : Int} {T : TH} {Q : Int → TH → Prop} (ho0 : clsO o0 = 3) (h : wp_X5_gramsAHead o0 v1 T Q) : MT G l0 yX5_gramsAHead cX5_gramsAHead 4 (some .int) 1 30 [.ref (gad G o0), .int (zI v1)] T (QI G Q) := by
  refine mt_of G l0 (by decide) (Nat.le_of_ble_eq_true rfl) (fun X C E => ?_)
  show V G X T 0 [(0, .ref (gad G o0)), (1, .int (zI v1))] []
  unfold wp_X5_gramsAHead at h
  refine v_iconst C dX5_gramsAHead_0 ?_
  refine v_istore_n C dX5_gramsAHead_1 rfl (by decide) ?_
  refine v_iconst C dX5_gramsAHead_2 ?_
  refine v_istore_n C dX5_gramsAHead_3 rfl (by decide) ?_
  obtain ⟨n9, h⟩ := h
  exact v_sub [2, 3, 1, 0] rfl (t_X5_gramsAHead_4 C E ho0 n9 _ _ _ h)
def b_X5_findParts_40 (o0 : Nat) (v1 : Int) (a2 b2 n2 : Nat) (Q : TH → Prop) (K7 : Int → TH → Prop) (v3 : Int) (T : TH) : Prop :=
  K7 (v3 + 1) T
def h_X5_findParts_7 (o0 : Nat) (v1 : Int) (a2 b2 n2 : Nat) (Q : TH → Prop) : Nat → Int → TH → Prop
  | 0, _, _ => False
  | n + 1, v3, T => zR v3 ∧ zR v1 ∧ (v1 < v3 → (Q T)) ∧ (¬ (v1 < v3) → (zR (zand v3 (zxor v1 (-1))) ∧ (¬ (zand v3 (zxor v1 (-1))) = 0 → (b_X5_findParts_40 o0 v1 a2 b2 n2 Q (h_X5_findParts_7 o0 v1 a2 b2 n2 Q n) v3 T)) ∧ ((zand v3 (zxor v1 (-1))) = 0 → (wp_X5_gramsAHead o0 v3 T (fun r2 T1 => 0 ≤ r2 ∧ r2 < n2 ∧ zR (T1 a2 b2 r2) ∧ (¬ (T1 a2 b2 r2) = (-1) → (b_X5_findParts_40 o0 v1 a2 b2 n2 Q (h_X5_findParts_7 o0 v1 a2 b2 n2 Q n) v3 T1)) ∧ ((T1 a2 b2 r2) = (-1) → (0 ≤ r2 ∧ r2 < n2 ∧ ∀ T3 : TH, T3 = up T1 a2 b2 r2 v3 → b_X5_findParts_40 o0 v1 a2 b2 n2 Q (h_X5_findParts_7 o0 v1 a2 b2 n2 Q n) v3 T3)))))))
def wp_X5_findParts (o0 : Nat) (v1 : Int) (a2 b2 n2 : Nat) (T : TH) (Q : TH → Prop) : Prop :=
  wp_J7_fill_53178 a2 b2 n2 (-1) T (fun T1 => (∃ m9 : Nat, h_X5_findParts_7 o0 v1 a2 b2 n2 Q m9 0 T1))
set_option maxRecDepth 100000 in
theorem t_X5_findParts_40 {G : GT} {l0 : Launch} {X : CX} (C : CT G l0 X cX5_findParts 5 RX5 (rM 2 53)) {Q : TH → Prop} (E : EN G X none (QV G Q)) {o0 : Nat} {v1 : Int} {a2 b2 n2 : Nat} (ho0 : clsO o0 = 3) (ha2 : arT (clsO a2) b2 = some (0, n2)) {K7 : Int → TH → Prop} (k7 : ∀ (v3 : Int) (T : TH), K7 v3 T → V G X T 7 [(0, .ref (gad G o0)), (1, .int (zI v1)), (2, .ref (gaa G a2 b2)), (3, .int (zI v3))] []) {v3 : Int} {T : TH} (h : b_X5_findParts_40 o0 v1 a2 b2 n2 Q K7 v3 T) : V G X T 40 [(0, .ref (gad G o0)), (1, .int (zI v1)), (2, .ref (gaa G a2 b2)), (3, .int (zI v3))] [] := by
  unfold b_X5_findParts_40 at h
  refine v_iinc C 3 dX5_findParts_40 rfl (by decide) ?_
  refine v_goto (tgt := 7) C dX5_findParts_43 (by decide) ?_
  exact v_sub [1, 2, 3, 0] rfl (k7 _ _ h)
set_option maxRecDepth 100000 in
theorem t_X5_findParts_7 {G : GT} {l0 : Launch} {X : CX} (C : CT G l0 X cX5_findParts 5 RX5 (rM 2 53)) {Q : TH → Prop} (E : EN G X none (QV G Q)) {o0 : Nat} {v1 : Int} {a2 b2 n2 : Nat} (ho0 : clsO o0 = 3) (ha2 : arT (clsO a2) b2 = some (0, n2)) : ∀ (n : Nat) (v3 : Int) (T : TH), h_X5_findParts_7 o0 v1 a2 b2 n2 Q n v3 T → V G X T 7 [(0, .ref (gad G o0)), (1, .int (zI v1)), (2, .ref (gaa G a2 b2)), (3, .int (zI v3))] [] := by
  intro n
  induction n with
  | zero =>
    intro v3 T h
    exact h.elim
  | succ n ih =>
    intro v3 T h
    rw [h_X5_findParts_7] at h
    refine v_iload_n C 3 dX5_findParts_7 rfl ?_
    refine v_iload_n C 1 dX5_findParts_8 rfl ?_
    obtain ⟨e1, e2, e3, e4⟩ := h
    refine v_icmp_gt (tgt := 46) C dX5_findParts_9 (by decide) e1 e2 (fun e5 => ?_) (fun e5 => ?_)
    · have h := e3 e5
      exact v_vret C E dX5_findParts_46 h
    · have h := e4 e5
      refine v_iload_n C 3 dX5_findParts_12 rfl ?_
      refine v_iload_n C 1 dX5_findParts_13 rfl ?_
      refine v_iconst C dX5_findParts_14 ?_
      refine v_ixor C dX5_findParts_15 ?_
      refine v_iand C dX5_findParts_16 ?_
      obtain ⟨e6, e7, e8⟩ := h
      refine v_if_ne (tgt := 40) C dX5_findParts_17 (by decide) e6 (fun e9 => ?_) (fun e9 => ?_)
      · have h := e7 e9
        exact v_sub [0, 1, 2, 3] rfl (t_X5_findParts_40 C E ho0 ha2 ih h)
      · have h := e8 e9
        refine v_aload_n C 0 dX5_findParts_20 rfl ?_
        refine v_iload_n C 3 dX5_findParts_21 rfl ?_
        refine v_cSI C (s_X5_gramsAHead G l0 ho0 h) mv_X5_gramsAHead wd_738 ⟨by decide, by decide⟩ rfl rfl (Nat.le_of_ble_eq_true rfl) dX5_findParts_22 (fun r2 T1 h => ?_)
        refine v_istore C dX5_findParts_25 (by decide) ?_
        refine v_aload_n C 3 dX5_findParts_27 rfl ?_
        refine v_iload C 0 dX5_findParts_28 rfl ?_
        obtain ⟨e10, e11, h⟩ := h
        refine v_iald C ha2 dX5_findParts_30 e10 e11 ?_
        refine v_iconst C dX5_findParts_31 ?_
        obtain ⟨e12, e13, e14⟩ := h
        refine v_icmp_ne (tgt := 40) C dX5_findParts_32 (by decide) e12 ⟨by decide, by decide⟩ (fun e15 => ?_) (fun e15 => ?_)
        · have h := e13 e15
          exact v_sub [1, 2, 3, 4] rfl (t_X5_findParts_40 C E ho0 ha2 ih h)
        · have h := e14 e15
          refine v_aload_n C 3 dX5_findParts_35 rfl ?_
          refine v_iload C 0 dX5_findParts_36 rfl ?_
          refine v_iload_n C 4 dX5_findParts_38 rfl ?_
          obtain ⟨e16, e17, h⟩ := h
          refine v_iast C ha2 dX5_findParts_39 e16 e17 ?_
          have h := h _ rfl
          exact v_sub [1, 2, 3, 4] rfl (t_X5_findParts_40 C E ho0 ha2 ih h)
set_option maxRecDepth 100000 in
theorem s_X5_findParts (G : GT) (l0 : Launch) {o0 : Nat} {v1 : Int} {a2 b2 n2 : Nat} {T : TH} {Q : TH → Prop} (ho0 : clsO o0 = 3) (ha2 : arT (clsO a2) b2 = some (0, n2)) (h : wp_X5_findParts o0 v1 a2 b2 n2 T Q) : MT G l0 yX5_findParts cX5_findParts 5 none 2 53 [.ref (gad G o0), .int (zI v1), .ref (gaa G a2 b2)] T (QV G Q) := by
  refine mt_of G l0 (by decide) (Nat.le_of_ble_eq_true rfl) (fun X C E => ?_)
  show V G X T 0 [(0, .ref (gad G o0)), (1, .int (zI v1)), (2, .ref (gaa G a2 b2))] []
  unfold wp_X5_findParts at h
  refine v_aload_n C 2 dX5_findParts_0 rfl ?_
  refine v_iconst C dX5_findParts_1 ?_
  refine v_cSN C (s_J7_fill_53178 G l0 ha2 h) mv_J7_fill_53178 wd_737 ⟨by decide, by decide⟩ rfl rfl (Nat.le_of_ble_eq_true rfl) dX5_findParts_2 (fun T1 h => ?_)
  refine v_iconst C dX5_findParts_5 ?_
  refine v_istore_n C dX5_findParts_6 rfl (by decide) ?_
  obtain ⟨n9, h⟩ := h
  exact v_sub [1, 2, 3, 0] rfl (t_X5_findParts_7 C E ho0 ha2 n9 _ _ h)
def b_X5_agree_52 (o1 : Nat) (v2 : Int) (v3 : Int) (Q : Int → TH → Prop) (K22 : Int → TH → Prop) (v4 : Int) (T : TH) : Prop :=
  K22 (v4 + (-1)) T
def h_X5_agree_22 (o1 : Nat) (v2 : Int) (v3 : Int) (Q : Int → TH → Prop) : Nat → Int → TH → Prop
  | 0, _, _ => False
  | n + 1, v4, T => zR v4 ∧ (v4 ≤ 0 → (Q 0 T)) ∧ (¬ (v4 ≤ 0) → (0 ≤ v4 ∧ v4 < 73 ∧ zR (T 12 0 v4) ∧ ((T 12 0 v4) = (-1) → (b_X5_agree_52 o1 v2 v3 Q (h_X5_agree_22 o1 v2 v3 Q n) v4 T)) ∧ (¬ ((T 12 0 v4) = (-1)) → (0 ≤ v4 ∧ v4 < 73 ∧ zR (T 12 1 v4) ∧ ((T 12 1 v4) = (-1) → (b_X5_agree_52 o1 v2 v3 Q (h_X5_agree_22 o1 v2 v3 Q n) v4 T)) ∧ (¬ ((T 12 1 v4) = (-1)) → (Q v4 T))))))
def wp_X5_agree (o1 : Nat) (v2 : Int) (v3 : Int) (T : TH) (Q : Int → TH → Prop) : Prop :=
  wp_X5_findParts o1 v2 12 0 73 T (fun T1 => wp_X5_findParts o1 v3 12 1 73 T1 (fun T2 => (∃ m9 : Nat, h_X5_agree_22 o1 v2 v3 Q m9 72 T2)))
set_option maxRecDepth 100000 in
theorem t_X5_agree_52 {G : GT} {l0 : Launch} {X : CX} (C : CT G l0 X cX5_agree 5 RX5 (rM 3 77)) {Q : Int → TH → Prop} (E : EN G X (some .int) (QI G Q)) {o1 : Nat} {v2 : Int} {v3 : Int} (ho1 : clsO o1 = 3) {K22 : Int → TH → Prop} (k22 : ∀ (v4 : Int) (T : TH), K22 v4 T → V G X T 22 [(0, .ref (gad G 12)), (1, .ref (gad G o1)), (2, .int (zI v2)), (3, .int (zI v3)), (4, .int (zI v4))] []) {v4 : Int} {T : TH} (h : b_X5_agree_52 o1 v2 v3 Q K22 v4 T) : V G X T 52 [(0, .ref (gad G 12)), (1, .ref (gad G o1)), (2, .int (zI v2)), (3, .int (zI v3)), (4, .int (zI v4))] [] := by
  unfold b_X5_agree_52 at h
  refine v_iinc C 4 dX5_agree_52 rfl (by decide) ?_
  refine v_goto (tgt := 22) C dX5_agree_55 (by decide) ?_
  exact v_sub [1, 2, 3, 4, 0] rfl (k22 _ _ h)
set_option maxRecDepth 100000 in
theorem t_X5_agree_22 {G : GT} {l0 : Launch} {X : CX} (C : CT G l0 X cX5_agree 5 RX5 (rM 3 77)) {Q : Int → TH → Prop} (E : EN G X (some .int) (QI G Q)) {o1 : Nat} {v2 : Int} {v3 : Int} (ho1 : clsO o1 = 3) : ∀ (n : Nat) (v4 : Int) (T : TH), h_X5_agree_22 o1 v2 v3 Q n v4 T → V G X T 22 [(0, .ref (gad G 12)), (1, .ref (gad G o1)), (2, .int (zI v2)), (3, .int (zI v3)), (4, .int (zI v4))] [] := by
  intro n
  induction n with
  | zero =>
    intro v4 T h
    exact h.elim
  | succ n ih =>
    intro v4 T h
    rw [h_X5_agree_22] at h
    refine v_iload C 4 dX5_agree_22 rfl ?_
    obtain ⟨e1, e2, e3⟩ := h
    refine v_if_le (tgt := 58) C dX5_agree_24 (by decide) e1 (fun e4 => ?_) (fun e4 => ?_)
    · have h := e2 e4
      refine v_iconst C dX5_agree_58 ?_
      exact v_iret C E dX5_agree_59 h
    · have h := e3 e4
      refine v_aload_n C 0 dX5_agree_27 rfl ?_
      refine v_getA C kX5 0 rfl rfl wd_308 rfl dX5_agree_28 ?_
      refine v_iload C 4 dX5_agree_31 rfl ?_
      obtain ⟨e5, e6, h⟩ := h
      refine v_iald C (ar_of (o := 12) rfl ar_5_0) dX5_agree_33 e5 e6 ?_
      refine v_iconst C dX5_agree_34 ?_
      obtain ⟨e7, e8, e9⟩ := h
      refine v_icmp_eq (tgt := 52) C dX5_agree_35 (by decide) e7 ⟨by decide, by decide⟩ (fun e10 => ?_) (fun e10 => ?_)
      · have h := e8 e10
        exact v_sub [0, 1, 2, 3, 4] rfl (t_X5_agree_52 C E ho1 ih h)
      · have h := e9 e10
        refine v_aload_n C 0 dX5_agree_38 rfl ?_
        refine v_getA C kX5 1 rfl rfl wd_310 rfl dX5_agree_39 ?_
        refine v_iload C 4 dX5_agree_42 rfl ?_
        obtain ⟨e11, e12, h⟩ := h
        refine v_iald C (ar_of (o := 12) rfl ar_5_1) dX5_agree_44 e11 e12 ?_
        refine v_iconst C dX5_agree_45 ?_
        obtain ⟨e13, e14, e15⟩ := h
        refine v_icmp_eq (tgt := 52) C dX5_agree_46 (by decide) e13 ⟨by decide, by decide⟩ (fun e16 => ?_) (fun e16 => ?_)
        · have h := e14 e16
          exact v_sub [0, 1, 2, 3, 4] rfl (t_X5_agree_52 C E ho1 ih h)
        · have h := e15 e16
          refine v_iload C 4 dX5_agree_49 rfl ?_
          exact v_iret C E dX5_agree_51 h
set_option maxRecDepth 100000 in
theorem s_X5_agree (G : GT) (l0 : Launch) {o1 : Nat} {v2 : Int} {v3 : Int} {T : TH} {Q : Int → TH → Prop} (ho1 : clsO o1 = 3) (h : wp_X5_agree o1 v2 v3 T Q) : MT G l0 yX5_agree cX5_agree 5 (some .int) 3 77 [.ref (gad G 12), .ref (gad G o1), .int (zI v2), .int (zI v3)] T (QI G Q) := by
  refine mt_of G l0 (by decide) (Nat.le_of_ble_eq_true rfl) (fun X C E => ?_)
  show V G X T 0 [(0, .ref (gad G 12)), (1, .ref (gad G o1)), (2, .int (zI v2)), (3, .int (zI v3))] []
  unfold wp_X5_agree at h
  refine v_aload_n C 1 dX5_agree_0 rfl ?_
  refine v_iload_n C 2 dX5_agree_1 rfl ?_
  refine v_aload_n C 0 dX5_agree_2 rfl ?_
  refine v_getA C kX5 0 rfl rfl wd_308 rfl dX5_agree_3 ?_
  refine v_cSN C (s_X5_findParts G l0 ho1 (ar_of (o := 12) rfl ar_5_0) h) mv_X5_findParts wd_734 ⟨by decide, by decide⟩ rfl rfl (Nat.le_of_ble_eq_true rfl) dX5_agree_6 (fun T1 h => ?_)
  refine v_aload_n C 1 dX5_agree_9 rfl ?_
  refine v_iload_n C 3 dX5_agree_10 rfl ?_
  refine v_aload_n C 0 dX5_agree_11 rfl ?_
  refine v_getA C kX5 1 rfl rfl wd_310 rfl dX5_agree_12 ?_
  refine v_cSN C (s_X5_findParts G l0 ho1 (ar_of (o := 12) rfl ar_5_1) h) mv_X5_findParts wd_734 ⟨by decide, by decide⟩ rfl rfl (Nat.le_of_ble_eq_true rfl) dX5_agree_15 (fun T2 h => ?_)
  refine v_bipush C dX5_agree_18 (by decide) ?_
  refine v_istore C dX5_agree_20 (by decide) ?_
  obtain ⟨n9, h⟩ := h
  exact v_sub [1, 2, 3, 4, 0] rfl (t_X5_agree_22 C E ho1 n9 _ _ h)
def wp_X6_add (v1 : Int) (v2 : Int) (T : TH) (Q : Int → TH → Prop) : Prop :=
  zR (T 8 0 0) ∧ ((T 8 0 0) < 15 → (0 ≤ (T 8 0 0) ∧ (T 8 0 0) < 15 ∧ ∀ T1 : TH, T1 = up T 8 1 (T 8 0 0) v1 → 0 ≤ (T1 8 0 0) ∧ (T1 8 0 0) < 15 ∧ ∀ T2 : TH, T2 = up T1 8 2 (T1 8 0 0) v2 → ∀ T3 : TH, T3 = up T2 8 0 0 ((T2 8 0 0) + 1) → Q (T3 8 0 0) T3)) ∧ (¬ ((T 8 0 0) < 15) → (Q (-1000000004) T))
set_option maxRecDepth 100000 in
theorem s_X6_add (G : GT) (l0 : Launch) {v1 : Int} {v2 : Int} {T : TH} {Q : Int → TH → Prop} (h : wp_X6_add v1 v2 T Q) : MT G l0 yX6_add cX6_add 3 (some .int) 0 0 [.ref (gad G 8), .int (zI v1), .int (zI v2)] T (QI G Q) := by
  refine mt_of G l0 (by decide) (Nat.le_of_ble_eq_true rfl) (fun X C E => ?_)
  show V G X T 0 [(0, .ref (gad G 8)), (1, .int (zI v1)), (2, .int (zI v2))] []
  unfold wp_X6_add at h
  refine v_aload_n C 0 dX6_add_0 rfl ?_
  refine v_getI C kX6 0 rfl rfl wd_239 rfl dX6_add_1 ?_
  refine v_bipush C dX6_add_4 (by decide) ?_
  obtain ⟨e1, e2, e3⟩ := h
  refine v_icmp_lt (tgt := 12) C dX6_add_6 (by decide) e1 ⟨by decide, by decide⟩ (fun e4 => ?_) (fun e4 => ?_)
  · have h := e2 e4
    refine v_aload_n C 0 dX6_add_12 rfl ?_
    refine v_getA C kX6 1 rfl rfl wd_241 rfl dX6_add_13 ?_
    refine v_aload_n C 0 dX6_add_16 rfl ?_
    refine v_getI C kX6 0 rfl rfl wd_239 rfl dX6_add_17 ?_
    refine v_iload_n C 1 dX6_add_20 rfl ?_
    obtain ⟨e5, e6, h⟩ := h
    refine v_iast C (ar_of (o := 8) rfl ar_6_1) dX6_add_21 e5 e6 ?_
    have h := h _ rfl
    refine v_aload_n C 0 dX6_add_22 rfl ?_
    refine v_getA C kX6 2 rfl rfl wd_242 rfl dX6_add_23 ?_
    refine v_aload_n C 0 dX6_add_26 rfl ?_
    refine v_getI C kX6 0 rfl rfl wd_239 rfl dX6_add_27 ?_
    refine v_iload_n C 2 dX6_add_30 rfl ?_
    obtain ⟨e7, e8, h⟩ := h
    refine v_iast C (ar_of (o := 8) rfl ar_6_2) dX6_add_31 e7 e8 ?_
    have h := h _ rfl
    refine v_aload_n C 0 dX6_add_32 rfl ?_
    refine v_dup C dX6_add_33 rfl ?_
    refine v_getI C kX6 0 rfl rfl wd_239 rfl dX6_add_34 ?_
    refine v_iconst C dX6_add_37 ?_
    refine v_iadd C dX6_add_38 ?_
    refine v_putI C kX6 0 rfl rfl wd_239 rfl rfl (tyX6_ok 0 (by decide)) dX6_add_39 ?_
    have h := h _ rfl
    refine v_aload_n C 0 dX6_add_42 rfl ?_
    refine v_getI C kX6 0 rfl rfl wd_239 rfl dX6_add_43 ?_
    exact v_iret C E dX6_add_46 h
  · have h := e3 e4
    refine v_ldc (n := -1000000004) C dX6_add_9 wd_780 (by decide) ?_
    exact v_iret C E dX6_add_11 h
def h_X6_firstWrong_2 (o1 : Nat) (o2 : Nat) (Q : Int → TH → Prop) : Nat → Int → TH → Prop
  | 0, _, _ => False
  | n + 1, v3, T => zR v3 ∧ zR (T 8 0 0) ∧ ((T 8 0 0) ≤ v3 → (Q (-1) T)) ∧ (¬ ((T 8 0 0) ≤ v3) → (0 ≤ v3 ∧ v3 < 15 ∧ wp_X2_load o2 o1 (T 8 1 v3) T (fun r2 T1 => 0 ≤ v3 ∧ v3 < 15 ∧ zR r2 ∧ zR (T1 8 2 v3) ∧ (r2 = (T1 8 2 v3) → ((h_X6_firstWrong_2 o1 o2 Q n) (v3 + 1) T1)) ∧ (¬ (r2 = (T1 8 2 v3)) → (Q v3 T1)))))
def wp_X6_firstWrong (o1 : Nat) (o2 : Nat) (T : TH) (Q : Int → TH → Prop) : Prop :=
  (∃ m9 : Nat, h_X6_firstWrong_2 o1 o2 Q m9 0 T)
set_option maxRecDepth 100000 in
theorem t_X6_firstWrong_2 {G : GT} {l0 : Launch} {X : CX} (C : CT G l0 X cX6_firstWrong 4 RX6 (rM 4 89)) {Q : Int → TH → Prop} (E : EN G X (some .int) (QI G Q)) {o1 : Nat} {o2 : Nat} (ho1 : clsO o1 = 3) (ho2 : clsO o2 = 2) : ∀ (n : Nat) (v3 : Int) (T : TH), h_X6_firstWrong_2 o1 o2 Q n v3 T → V G X T 2 [(0, .ref (gad G 8)), (1, .ref (gad G o1)), (2, .ref (gad G o2)), (3, .int (zI v3))] [] := by
  intro n
  induction n with
  | zero =>
    intro v3 T h
    exact h.elim
  | succ n ih =>
    intro v3 T h
    rw [h_X6_firstWrong_2] at h
    refine v_iload_n C 3 dX6_firstWrong_2 rfl ?_
    refine v_aload_n C 0 dX6_firstWrong_3 rfl ?_
    refine v_getI C kX6 0 rfl rfl wd_239 rfl dX6_firstWrong_4 ?_
    obtain ⟨e1, e2, e3, e4⟩ := h
    refine v_icmp_ge (tgt := 38) C dX6_firstWrong_7 (by decide) e1 e2 (fun e5 => ?_) (fun e5 => ?_)
    · have h := e3 e5
      refine v_iconst C dX6_firstWrong_38 ?_
      exact v_iret C E dX6_firstWrong_39 h
    · have h := e4 e5
      refine v_aload_n C 2 dX6_firstWrong_10 rfl ?_
      refine v_aload_n C 1 dX6_firstWrong_11 rfl ?_
      refine v_aload_n C 0 dX6_firstWrong_12 rfl ?_
      refine v_getA C kX6 1 rfl rfl wd_241 rfl dX6_firstWrong_13 ?_
      refine v_iload_n C 3 dX6_firstWrong_16 rfl ?_
      obtain ⟨e6, e7, h⟩ := h
      refine v_iald C (ar_of (o := 8) rfl ar_6_1) dX6_firstWrong_17 e6 e7 ?_
      refine v_cVI C kX2 ho2 (s_X2_load G l0 ho2 ho1 h) mv_X2_load wd_793 ⟨by decide, by decide⟩ rfl rfl (Nat.le_of_ble_eq_true rfl) dX6_firstWrong_18 (fun r2 T1 h => ?_)
      refine v_aload_n C 0 dX6_firstWrong_21 rfl ?_
      refine v_getA C kX6 2 rfl rfl wd_242 rfl dX6_firstWrong_22 ?_
      refine v_iload_n C 3 dX6_firstWrong_25 rfl ?_
      obtain ⟨e8, e9, h⟩ := h
      refine v_iald C (ar_of (o := 8) rfl ar_6_2) dX6_firstWrong_26 e8 e9 ?_
      obtain ⟨e10, e11, e12, e13⟩ := h
      refine v_icmp_eq (tgt := 32) C dX6_firstWrong_27 (by decide) e10 e11 (fun e14 => ?_) (fun e14 => ?_)
      · have h := e12 e14
        refine v_iinc C 3 dX6_firstWrong_32 rfl (by decide) ?_
        refine v_goto (tgt := 2) C dX6_firstWrong_35 (by decide) ?_
        exact v_sub [1, 2, 3, 0] rfl (ih _ _ h)
      · have h := e13 e14
        refine v_iload_n C 3 dX6_firstWrong_30 rfl ?_
        exact v_iret C E dX6_firstWrong_31 h
set_option maxRecDepth 100000 in
theorem s_X6_firstWrong (G : GT) (l0 : Launch) {o1 : Nat} {o2 : Nat} {T : TH} {Q : Int → TH → Prop} (ho1 : clsO o1 = 3) (ho2 : clsO o2 = 2) (h : wp_X6_firstWrong o1 o2 T Q) : MT G l0 yX6_firstWrong cX6_firstWrong 4 (some .int) 4 89 [.ref (gad G 8), .ref (gad G o1), .ref (gad G o2)] T (QI G Q) := by
  refine mt_of G l0 (by decide) (Nat.le_of_ble_eq_true rfl) (fun X C E => ?_)
  show V G X T 0 [(0, .ref (gad G 8)), (1, .ref (gad G o1)), (2, .ref (gad G o2))] []
  unfold wp_X6_firstWrong at h
  refine v_iconst C dX6_firstWrong_0 ?_
  refine v_istore_n C dX6_firstWrong_1 rfl (by decide) ?_
  obtain ⟨n9, h⟩ := h
  exact v_sub [1, 2, 3, 0] rfl (t_X6_firstWrong_2 C E ho1 ho2 n9 _ _ h)
def b_X7_addFact_69 (v1 : Int) (v2 : Int) (Q : TH → Prop) (K23 : Int → TH → Prop) (v3 : Int) (v4 : Int) (T : TH) : Prop :=
  0 ≤ v3 ∧ v3 < 433 ∧ ∀ T1 : TH, T1 = up T 10 0 v3 v4 → K23 (v3 + (-1)) T1
def h_X7_addFact_33 (v1 : Int) (v2 : Int) (Q : TH → Prop) (K23 : Int → TH → Prop) : Nat → Int → Int → Int → TH → Prop
  | 0, _, _, _, _ => False
  | n + 1, v3, v4, v5, T => zR v5 ∧ zR v2 ∧ (v2 < v5 → (b_X7_addFact_69 v1 v2 Q K23 v3 v4 T)) ∧ (¬ (v2 < v5) → (zR (v5 * v1) ∧ zR v3 ∧ (v3 < (v5 * v1) → (b_X7_addFact_69 v1 v2 Q K23 v3 v4 T)) ∧ (¬ (v3 < (v5 * v1)) → (0 ≤ (v3 - (v5 * v1)) ∧ (v3 - (v5 * v1)) < 433 ∧ ∀ w1 : Int, w1 = (v4 + (T 10 0 (v3 - (v5 * v1)))) → (h_X7_addFact_33 v1 v2 Q K23 n) v3 w1 (v5 + 1) T))))
def h_X7_addFact_23 (v1 : Int) (v2 : Int) (Q : TH → Prop) : Nat → Int → TH → Prop
  | 0, _, _ => False
  | n + 1, v3, T => zR v3 ∧ (v3 < 0 → (Q T)) ∧ (¬ (v3 < 0) → ((∃ m9 : Nat, h_X7_addFact_33 v1 v2 Q (h_X7_addFact_23 v1 v2 Q n) m9 v3 0 0 T)))
def wp_X7_addFact (v1 : Int) (v2 : Int) (T : TH) (Q : TH → Prop) : Prop :=
  zR ((T 10 2 0) + (v1 * v2)) ∧ ∀ T1 : TH, T1 = up T 10 2 0 (zmin 432 ((T 10 2 0) + (v1 * v2))) → ∀ w2 : Int, w2 = (T1 10 2 0) → (∃ m9 : Nat, h_X7_addFact_23 v1 v2 Q m9 w2 T1)
set_option maxRecDepth 100000 in
theorem t_X7_addFact_69 {G : GT} {l0 : Launch} {X : CX} (C : CT G l0 X cX7_addFact 6 RX7 (rM 1 30)) {Q : TH → Prop} (E : EN G X none (QV G Q)) {v1 : Int} {v2 : Int} {K23 : Int → TH → Prop} (k23 : ∀ (v3 : Int) (T : TH), K23 v3 T → V G X T 23 [(0, .ref (gad G 10)), (1, .int (zI v1)), (2, .int (zI v2)), (3, .int (zI v3))] []) {v3 : Int} {v4 : Int} {T : TH} (h : b_X7_addFact_69 v1 v2 Q K23 v3 v4 T) : V G X T 69 [(0, .ref (gad G 10)), (1, .int (zI v1)), (2, .int (zI v2)), (3, .int (zI v3)), (4, .int (zI v4))] [] := by
  unfold b_X7_addFact_69 at h
  refine v_aload_n C 0 dX7_addFact_69 rfl ?_
  refine v_getA C kX7 0 rfl rfl wd_273 rfl dX7_addFact_70 ?_
  refine v_iload_n C 3 dX7_addFact_73 rfl ?_
  refine v_iload C 4 dX7_addFact_74 rfl ?_
  obtain ⟨e1, e2, h⟩ := h
  refine v_iast C (ar_of (o := 10) rfl ar_7_0) dX7_addFact_76 e1 e2 ?_
  have h := h _ rfl
  refine v_iinc C 3 dX7_addFact_77 rfl (by decide) ?_
  refine v_goto (tgt := 23) C dX7_addFact_80 (by decide) ?_
  exact v_sub [1, 2, 3, 0] rfl (k23 _ _ h)
set_option maxRecDepth 100000 in
theorem t_X7_addFact_33 {G : GT} {l0 : Launch} {X : CX} (C : CT G l0 X cX7_addFact 6 RX7 (rM 1 30)) {Q : TH → Prop} (E : EN G X none (QV G Q)) {v1 : Int} {v2 : Int} {K23 : Int → TH → Prop} (k23 : ∀ (v3 : Int) (T : TH), K23 v3 T → V G X T 23 [(0, .ref (gad G 10)), (1, .int (zI v1)), (2, .int (zI v2)), (3, .int (zI v3))] []) : ∀ (n : Nat) (v3 : Int) (v4 : Int) (v5 : Int) (T : TH), h_X7_addFact_33 v1 v2 Q K23 n v3 v4 v5 T → V G X T 33 [(0, .ref (gad G 10)), (1, .int (zI v1)), (2, .int (zI v2)), (3, .int (zI v3)), (4, .int (zI v4)), (5, .int (zI v5))] [] := by
  intro n
  induction n with
  | zero =>
    intro v3 v4 v5 T h
    exact h.elim
  | succ n ih =>
    intro v3 v4 v5 T h
    rw [h_X7_addFact_33] at h
    refine v_iload C 5 dX7_addFact_33 rfl ?_
    refine v_iload_n C 2 dX7_addFact_35 rfl ?_
    obtain ⟨e1, e2, e3, e4⟩ := h
    refine v_icmp_gt (tgt := 69) C dX7_addFact_36 (by decide) e1 e2 (fun e5 => ?_) (fun e5 => ?_)
    · have h := e3 e5
      exact v_sub [0, 1, 2, 3, 4] rfl (t_X7_addFact_69 C E k23 h)
    · have h := e4 e5
      refine v_iload C 5 dX7_addFact_39 rfl ?_
      refine v_iload_n C 1 dX7_addFact_41 rfl ?_
      refine v_imul C dX7_addFact_42 ?_
      refine v_iload_n C 3 dX7_addFact_43 rfl ?_
      obtain ⟨e6, e7, e8, e9⟩ := h
      refine v_icmp_gt (tgt := 69) C dX7_addFact_44 (by decide) e6 e7 (fun e10 => ?_) (fun e10 => ?_)
      · have h := e8 e10
        exact v_sub [0, 1, 2, 3, 4] rfl (t_X7_addFact_69 C E k23 h)
      · have h := e9 e10
        refine v_iload C 4 dX7_addFact_47 rfl ?_
        refine v_aload_n C 0 dX7_addFact_49 rfl ?_
        refine v_getA C kX7 0 rfl rfl wd_273 rfl dX7_addFact_50 ?_
        refine v_iload_n C 3 dX7_addFact_53 rfl ?_
        refine v_iload C 5 dX7_addFact_54 rfl ?_
        refine v_iload_n C 1 dX7_addFact_56 rfl ?_
        refine v_imul C dX7_addFact_57 ?_
        refine v_isub C dX7_addFact_58 ?_
        obtain ⟨e11, e12, h⟩ := h
        refine v_iald C (ar_of (o := 10) rfl ar_7_0) dX7_addFact_59 e11 e12 ?_
        refine v_iadd C dX7_addFact_60 ?_
        refine v_istore C dX7_addFact_61 (by decide) ?_
        have h := h _ rfl
        refine v_iinc C 5 dX7_addFact_63 rfl (by decide) ?_
        refine v_goto (tgt := 33) C dX7_addFact_66 (by decide) ?_
        exact v_sub [2, 3, 4, 5, 1, 0] rfl (ih _ _ _ _ h)
set_option maxRecDepth 100000 in
theorem t_X7_addFact_23 {G : GT} {l0 : Launch} {X : CX} (C : CT G l0 X cX7_addFact 6 RX7 (rM 1 30)) {Q : TH → Prop} (E : EN G X none (QV G Q)) {v1 : Int} {v2 : Int} : ∀ (n : Nat) (v3 : Int) (T : TH), h_X7_addFact_23 v1 v2 Q n v3 T → V G X T 23 [(0, .ref (gad G 10)), (1, .int (zI v1)), (2, .int (zI v2)), (3, .int (zI v3))] [] := by
  intro n
  induction n with
  | zero =>
    intro v3 T h
    exact h.elim
  | succ n ih =>
    intro v3 T h
    rw [h_X7_addFact_23] at h
    refine v_iload_n C 3 dX7_addFact_23 rfl ?_
    obtain ⟨e1, e2, e3⟩ := h
    refine v_if_lt (tgt := 83) C dX7_addFact_24 (by decide) e1 (fun e4 => ?_) (fun e4 => ?_)
    · have h := e2 e4
      exact v_vret C E dX7_addFact_83 h
    · have h := e3 e4
      refine v_iconst C dX7_addFact_27 ?_
      refine v_istore C dX7_addFact_28 (by decide) ?_
      refine v_iconst C dX7_addFact_30 ?_
      refine v_istore C dX7_addFact_31 (by decide) ?_
      obtain ⟨n9, h⟩ := h
      exact v_sub [2, 3, 4, 5, 1, 0] rfl (t_X7_addFact_33 C E ih n9 _ _ _ _ h)
set_option maxRecDepth 100000 in
theorem s_X7_addFact (G : GT) (l0 : Launch) {v1 : Int} {v2 : Int} {T : TH} {Q : TH → Prop} (h : wp_X7_addFact v1 v2 T Q) : MT G l0 yX7_addFact cX7_addFact 6 none 1 30 [.ref (gad G 10), .int (zI v1), .int (zI v2)] T (QV G Q) := by
  refine mt_of G l0 (by decide) (Nat.le_of_ble_eq_true rfl) (fun X C E => ?_)
  show V G X T 0 [(0, .ref (gad G 10)), (1, .int (zI v1)), (2, .int (zI v2))] []
  unfold wp_X7_addFact at h
  refine v_aload_n C 0 dX7_addFact_0 rfl ?_
  refine v_sipush C dX7_addFact_1 (by decide) ?_
  refine v_aload_n C 0 dX7_addFact_4 rfl ?_
  refine v_getI C kX7 2 rfl rfl wd_275 rfl dX7_addFact_5 ?_
  refine v_iload_n C 1 dX7_addFact_8 rfl ?_
  refine v_iload_n C 2 dX7_addFact_9 rfl ?_
  refine v_imul C dX7_addFact_10 ?_
  refine v_iadd C dX7_addFact_11 ?_
  obtain ⟨e1, h⟩ := h
  refine v_mmin C ⟨by decide, by decide⟩ e1 wd_683 wd_684 wd_74 wd_685 (by decide) (Nat.le_of_ble_eq_true rfl) dX7_addFact_12 ?_
  refine v_putI C kX7 2 rfl rfl wd_275 rfl rfl (tyX7_ok 2 (by decide)) dX7_addFact_15 ?_
  have h := h _ rfl
  refine v_aload_n C 0 dX7_addFact_18 rfl ?_
  refine v_getI C kX7 2 rfl rfl wd_275 rfl dX7_addFact_19 ?_
  refine v_istore_n C dX7_addFact_22 rfl (by decide) ?_
  have h := h _ rfl
  obtain ⟨n9, h⟩ := h
  exact v_sub [1, 2, 3, 0] rfl (t_X7_addFact_23 C E n9 _ _ h)
def b_X7_spread_96 (o1 : Nat) (v2 : Int) (Q : TH → Prop) (K35 : Int → Int → TH → Prop) (v3 : Int) (v4 : Int) (T : TH) : Prop :=
  K35 v3 (v4 + 1) T
def b_X7_spread_80 (o1 : Nat) (v2 : Int) (Q : TH → Prop) (K35 : Int → Int → TH → Prop) (v3 : Int) (v4 : Int) (s1 : Int) (s2 : Int) (T : TH) : Prop :=
  ∀ T1 : TH, T1 = up T 10 1 0 (s1 - s2) → 0 ≤ v4 ∧ v4 < 8 ∧ wp_X7_addFact (T1 o1 9 v4) v3 T1 (fun T2 => b_X7_spread_96 o1 v2 Q K35 v3 v4 T2)
def h_X7_spread_35 (o1 : Nat) (v2 : Int) (Q : TH → Prop) : Nat → Int → Int → TH → Prop
  | 0, _, _, _ => False
  | n + 1, v3, v4, T => zR v4 ∧ zR (T o1 1 0) ∧ ((T o1 1 0) ≤ v4 → (Q T)) ∧ (¬ ((T o1 1 0) ≤ v4) → (zR (zand (zshr v2 v4) 1) ∧ ((zand (zshr v2 v4) 1) = 0 → (b_X7_spread_96 o1 v2 Q (h_X7_spread_35 o1 v2 Q n) v3 v4 T)) ∧ (¬ ((zand (zshr v2 v4) 1) = 0) → (wp_X3_isLie o1 v4 T (fun p2 T1 => (p2 = false → (b_X7_spread_80 o1 v2 Q (h_X7_spread_35 o1 v2 Q n) v3 v4 (T 10 1 0) 0 T1)) ∧ (p2 = true → (0 ≤ v4 ∧ v4 < 8 ∧ b_X7_spread_80 o1 v2 Q (h_X7_spread_35 o1 v2 Q n) v3 v4 (T 10 1 0) ((T1 o1 9 v4) * v3) T1)))))))
def wp_X7_spread (o1 : Nat) (v2 : Int) (T : TH) (Q : TH → Prop) : Prop :=
  wp_J7_fill_53178 10 0 433 0 T (fun T1 => ∀ T2 : TH, T2 = up T1 10 0 0 1 → ∀ T3 : TH, T3 = up T2 10 1 0 0 → ∀ T4 : TH, T4 = up T3 10 2 0 0 → ∀ w5 : Int, w5 = ((T4 o1 0 0) - 1) → (∃ m9 : Nat, h_X7_spread_35 o1 v2 Q m9 w5 0 T4))
set_option maxRecDepth 100000 in
theorem t_X7_spread_96 {G : GT} {l0 : Launch} {X : CX} (C : CT G l0 X cX7_spread 5 RX7 (rM 2 55)) {Q : TH → Prop} (E : EN G X none (QV G Q)) {o1 : Nat} {v2 : Int} (ho1 : clsO o1 = 3) {K35 : Int → Int → TH → Prop} (k35 : ∀ (v3 : Int) (v4 : Int) (T : TH), K35 v3 v4 T → V G X T 35 [(0, .ref (gad G 10)), (1, .ref (gad G o1)), (2, .int (zI v2)), (3, .int (zI v3)), (4, .int (zI v4))] []) {v3 : Int} {v4 : Int} {T : TH} (h : b_X7_spread_96 o1 v2 Q K35 v3 v4 T) : V G X T 96 [(0, .ref (gad G 10)), (1, .ref (gad G o1)), (2, .int (zI v2)), (3, .int (zI v3)), (4, .int (zI v4))] [] := by
  unfold b_X7_spread_96 at h
  refine v_iinc C 4 dX7_spread_96 rfl (by decide) ?_
  refine v_goto (tgt := 35) C dX7_spread_99 (by decide) ?_
  exact v_sub [1, 2, 3, 4, 0] rfl (k35 _ _ _ h)
set_option maxRecDepth 100000 in
theorem t_X7_spread_80 {G : GT} {l0 : Launch} {X : CX} (C : CT G l0 X cX7_spread 5 RX7 (rM 2 55)) {Q : TH → Prop} (E : EN G X none (QV G Q)) {o1 : Nat} {v2 : Int} (ho1 : clsO o1 = 3) {K35 : Int → Int → TH → Prop} (k35 : ∀ (v3 : Int) (v4 : Int) (T : TH), K35 v3 v4 T → V G X T 35 [(0, .ref (gad G 10)), (1, .ref (gad G o1)), (2, .int (zI v2)), (3, .int (zI v3)), (4, .int (zI v4))] []) {v3 : Int} {v4 : Int} {s1 : Int} {s2 : Int} {T : TH} (h : b_X7_spread_80 o1 v2 Q K35 v3 v4 s1 s2 T) : V G X T 80 [(0, .ref (gad G 10)), (1, .ref (gad G o1)), (2, .int (zI v2)), (3, .int (zI v3)), (4, .int (zI v4))] [.int (zI s2), .int (zI s1), .ref (gad G 10)] := by
  unfold b_X7_spread_80 at h
  refine v_isub C dX7_spread_80 ?_
  refine v_putI C kX7 1 rfl rfl wd_274 rfl rfl (tyX7_ok 1 (by decide)) dX7_spread_81 ?_
  have h := h _ rfl
  refine v_aload_n C 0 dX7_spread_84 rfl ?_
  refine v_aload_n C 1 dX7_spread_85 rfl ?_
  refine v_getA C kX3 9 ho1 rfl wd_154 rfl dX7_spread_86 ?_
  refine v_iload C 4 dX7_spread_89 rfl ?_
  obtain ⟨e1, e2, h⟩ := h
  refine v_iald C (ar_of ho1 ar_3_9) dX7_spread_91 e1 e2 ?_
  refine v_iload_n C 3 dX7_spread_92 rfl ?_
  refine v_cVN C kX7 rfl (s_X7_addFact G l0 h) mv_X7_addFact wd_679 ⟨by decide, by decide⟩ rfl rfl (Nat.le_of_ble_eq_true rfl) dX7_spread_93 (fun T2 h => ?_)
  exact v_sub [0, 1, 2, 3, 4] rfl (t_X7_spread_96 C E ho1 k35 h)
set_option maxRecDepth 100000 in
theorem t_X7_spread_35 {G : GT} {l0 : Launch} {X : CX} (C : CT G l0 X cX7_spread 5 RX7 (rM 2 55)) {Q : TH → Prop} (E : EN G X none (QV G Q)) {o1 : Nat} {v2 : Int} (ho1 : clsO o1 = 3) : ∀ (n : Nat) (v3 : Int) (v4 : Int) (T : TH), h_X7_spread_35 o1 v2 Q n v3 v4 T → V G X T 35 [(0, .ref (gad G 10)), (1, .ref (gad G o1)), (2, .int (zI v2)), (3, .int (zI v3)), (4, .int (zI v4))] [] := by
  intro n
  induction n with
  | zero =>
    intro v3 v4 T h
    exact h.elim
  | succ n ih =>
    intro v3 v4 T h
    rw [h_X7_spread_35] at h
    refine v_iload C 4 dX7_spread_35 rfl ?_
    refine v_aload_n C 1 dX7_spread_37 rfl ?_
    refine v_getI C kX3 1 ho1 rfl wd_125 rfl dX7_spread_38 ?_
    obtain ⟨e1, e2, e3, e4⟩ := h
    refine v_icmp_ge (tgt := 102) C dX7_spread_41 (by decide) e1 e2 (fun e5 => ?_) (fun e5 => ?_)
    · have h := e3 e5
      exact v_vret C E dX7_spread_102 h
    · have h := e4 e5
      refine v_iload_n C 2 dX7_spread_44 rfl ?_
      refine v_iload C 4 dX7_spread_45 rfl ?_
      refine v_ishr C dX7_spread_47 ?_
      refine v_iconst C dX7_spread_48 ?_
      refine v_iand C dX7_spread_49 ?_
      obtain ⟨e6, e7, e8⟩ := h
      refine v_if_eq (tgt := 96) C dX7_spread_50 (by decide) e6 (fun e9 => ?_) (fun e9 => ?_)
      · have h := e7 e9
        exact v_sub [0, 1, 2, 3, 4] rfl (t_X7_spread_96 C E ho1 ih h)
      · have h := e8 e9
        refine v_aload_n C 0 dX7_spread_53 rfl ?_
        refine v_dup C dX7_spread_54 rfl ?_
        refine v_getI C kX7 1 rfl rfl wd_274 rfl dX7_spread_55 ?_
        refine v_aload_n C 1 dX7_spread_58 rfl ?_
        refine v_iload C 4 dX7_spread_59 rfl ?_
        refine v_cVZ C kX3 ho1 (s_X3_isLie G l0 ho1 h) mv_X3_isLie wd_678 ⟨by decide, by decide⟩ rfl rfl (Nat.le_of_ble_eq_true rfl) dX7_spread_61 (fun p2 T1 h => ?_)
        obtain ⟨e10, e11⟩ := h
        refine v_ifz_eq (tgt := 79) C dX7_spread_64 (by decide) (fun e12 => ?_) (fun e12 => ?_)
        · have h := e10 e12
          refine v_iconst C dX7_spread_79 ?_
          exact v_sub [0, 1, 2, 3, 4] rfl (t_X7_spread_80 C E ho1 ih h)
        · have h := e11 e12
          refine v_aload_n C 1 dX7_spread_67 rfl ?_
          refine v_getA C kX3 9 ho1 rfl wd_154 rfl dX7_spread_68 ?_
          refine v_iload C 4 dX7_spread_71 rfl ?_
          obtain ⟨e13, e14, h⟩ := h
          refine v_iald C (ar_of ho1 ar_3_9) dX7_spread_73 e13 e14 ?_
          refine v_iload_n C 3 dX7_spread_74 rfl ?_
          refine v_imul C dX7_spread_75 ?_
          refine v_goto (tgt := 80) C dX7_spread_76 (by decide) ?_
          exact v_sub [0, 1, 2, 3, 4] rfl (t_X7_spread_80 C E ho1 ih h)
set_option maxRecDepth 100000 in
theorem s_X7_spread (G : GT) (l0 : Launch) {o1 : Nat} {v2 : Int} {T : TH} {Q : TH → Prop} (ho1 : clsO o1 = 3) (h : wp_X7_spread o1 v2 T Q) : MT G l0 yX7_spread cX7_spread 5 none 2 55 [.ref (gad G 10), .ref (gad G o1), .int (zI v2)] T (QV G Q) := by
  refine mt_of G l0 (by decide) (Nat.le_of_ble_eq_true rfl) (fun X C E => ?_)
  show V G X T 0 [(0, .ref (gad G 10)), (1, .ref (gad G o1)), (2, .int (zI v2))] []
  unfold wp_X7_spread at h
  refine v_aload_n C 0 dX7_spread_0 rfl ?_
  refine v_getA C kX7 0 rfl rfl wd_273 rfl dX7_spread_1 ?_
  refine v_iconst C dX7_spread_4 ?_
  refine v_cSN C (s_J7_fill_53178 G l0 (ar_of (o := 10) rfl ar_7_0) h) mv_J7_fill_53178 wd_677 ⟨by decide, by decide⟩ rfl rfl (Nat.le_of_ble_eq_true rfl) dX7_spread_5 (fun T1 h => ?_)
  refine v_aload_n C 0 dX7_spread_8 rfl ?_
  refine v_getA C kX7 0 rfl rfl wd_273 rfl dX7_spread_9 ?_
  refine v_iconst C dX7_spread_12 ?_
  refine v_iconst C dX7_spread_13 ?_
  refine v_iast C (ar_of (o := 10) rfl ar_7_0) dX7_spread_14 (by decide) (by decide) ?_
  have h := h _ rfl
  refine v_aload_n C 0 dX7_spread_15 rfl ?_
  refine v_iconst C dX7_spread_16 ?_
  refine v_putI C kX7 1 rfl rfl wd_274 rfl rfl (tyX7_ok 1 (by decide)) dX7_spread_17 ?_
  have h := h _ rfl
  refine v_aload_n C 0 dX7_spread_20 rfl ?_
  refine v_iconst C dX7_spread_21 ?_
  refine v_putI C kX7 2 rfl rfl wd_275 rfl rfl (tyX7_ok 2 (by decide)) dX7_spread_22 ?_
  have h := h _ rfl
  refine v_aload_n C 1 dX7_spread_25 rfl ?_
  refine v_getI C kX3 0 ho1 rfl wd_119 rfl dX7_spread_26 ?_
  refine v_iconst C dX7_spread_29 ?_
  refine v_isub C dX7_spread_30 ?_
  refine v_istore_n C dX7_spread_31 rfl (by decide) ?_
  have h := h _ rfl
  refine v_iconst C dX7_spread_32 ?_
  refine v_istore C dX7_spread_33 (by decide) ?_
  obtain ⟨n9, h⟩ := h
  exact v_sub [2, 3, 4, 1, 0] rfl (t_X7_spread_35 C E ho1 n9 _ _ _ h)
def wp_X7_countAt (v1 : Int) (T : TH) (Q : Int → TH → Prop) : Prop :=
  ∀ w1 : Int, w1 = (v1 - (T 10 1 0)) → zR w1 ∧ (w1 < 0 → (Q 0 T)) ∧ (¬ (w1 < 0) → (zR w1 ∧ zR (T 10 2 0) ∧ ((T 10 2 0) < w1 → (Q 0 T)) ∧ (¬ ((T 10 2 0) < w1) → (0 ≤ w1 ∧ w1 < 433 ∧ Q (T 10 0 w1) T))))
set_option maxRecDepth 100000 in
theorem s_X7_countAt (G : GT) (l0 : Launch) {v1 : Int} {T : TH} {Q : Int → TH → Prop} (h : wp_X7_countAt v1 T Q) : MT G l0 yX7_countAt cX7_countAt 3 (some .int) 0 0 [.ref (gad G 10), .int (zI v1)] T (QI G Q) := by
  refine mt_of G l0 (by decide) (Nat.le_of_ble_eq_true rfl) (fun X C E => ?_)
  show V G X T 0 [(0, .ref (gad G 10)), (1, .int (zI v1))] []
  unfold wp_X7_countAt at h
  refine v_iload_n C 1 dX7_countAt_0 rfl ?_
  refine v_aload_n C 0 dX7_countAt_1 rfl ?_
  refine v_getI C kX7 1 rfl rfl wd_274 rfl dX7_countAt_2 ?_
  refine v_isub C dX7_countAt_5 ?_
  refine v_istore_n C dX7_countAt_6 rfl (by decide) ?_
  have h := h _ rfl
  refine v_iload_n C 0 dX7_countAt_7 rfl ?_
  obtain ⟨e1, e2, e3⟩ := h
  refine v_if_lt (tgt := 28) C dX7_countAt_8 (by decide) e1 (fun e4 => ?_) (fun e4 => ?_)
  · have h := e2 e4
    refine v_iconst C dX7_countAt_28 ?_
    exact v_iret C E dX7_countAt_29 h
  · have h := e3 e4
    refine v_iload_n C 0 dX7_countAt_11 rfl ?_
    refine v_aload_n C 1 dX7_countAt_12 rfl ?_
    refine v_getI C kX7 2 rfl rfl wd_275 rfl dX7_countAt_13 ?_
    obtain ⟨e5, e6, e7, e8⟩ := h
    refine v_icmp_gt (tgt := 28) C dX7_countAt_16 (by decide) e5 e6 (fun e9 => ?_) (fun e9 => ?_)
    · have h := e7 e9
      refine v_iconst C dX7_countAt_28 ?_
      exact v_iret C E dX7_countAt_29 h
    · have h := e8 e9
      refine v_aload_n C 1 dX7_countAt_19 rfl ?_
      refine v_getA C kX7 0 rfl rfl wd_273 rfl dX7_countAt_20 ?_
      refine v_iload_n C 0 dX7_countAt_23 rfl ?_
      obtain ⟨e10, e11, h⟩ := h
      refine v_iald C (ar_of (o := 10) rfl ar_7_0) dX7_countAt_24 e10 e11 ?_
      refine v_goto (tgt := 29) C dX7_countAt_25 (by decide) ?_
      exact v_iret C E dX7_countAt_29 h
def h_X7_fewestHeads_3 (o1 : Nat) (v2 : Int) (v3 : Int) (Q : Int → TH → Prop) : Nat → Int → TH → Prop
  | 0, _, _ => False
  | n + 1, v4, T => zR v4 ∧ zR (T o1 0 0) ∧ ((T o1 0 0) ≤ v4 → (Q (-1) T)) ∧ (¬ ((T o1 0 0) ≤ v4) → (wp_X3_pull o1 v2 T (fun r2 T1 => wp_X7_countAt (v3 - (v4 * r2)) T1 (fun r4 T3 => zR r4 ∧ (r4 ≤ 0 → ((h_X7_fewestHeads_3 o1 v2 v3 Q n) (v4 + 1) T3)) ∧ (¬ (r4 ≤ 0) → (Q v4 T3))))))
def wp_X7_fewestHeads (o1 : Nat) (v2 : Int) (v3 : Int) (T : TH) (Q : Int → TH → Prop) : Prop :=
  (∃ m9 : Nat, h_X7_fewestHeads_3 o1 v2 v3 Q m9 0 T)
set_option maxRecDepth 100000 in
theorem t_X7_fewestHeads_3 {G : GT} {l0 : Launch} {X : CX} (C : CT G l0 X cX7_fewestHeads 5 RX7 (rM 2 42)) {Q : Int → TH → Prop} (E : EN G X (some .int) (QI G Q)) {o1 : Nat} {v2 : Int} {v3 : Int} (ho1 : clsO o1 = 3) : ∀ (n : Nat) (v4 : Int) (T : TH), h_X7_fewestHeads_3 o1 v2 v3 Q n v4 T → V G X T 3 [(0, .ref (gad G 10)), (1, .ref (gad G o1)), (2, .int (zI v2)), (3, .int (zI v3)), (4, .int (zI v4))] [] := by
  intro n
  induction n with
  | zero =>
    intro v4 T h
    exact h.elim
  | succ n ih =>
    intro v4 T h
    rw [h_X7_fewestHeads_3] at h
    refine v_iload C 4 dX7_fewestHeads_3 rfl ?_
    refine v_aload_n C 1 dX7_fewestHeads_5 rfl ?_
    refine v_getI C kX3 0 ho1 rfl wd_119 rfl dX7_fewestHeads_6 ?_
    obtain ⟨e1, e2, e3, e4⟩ := h
    refine v_icmp_ge (tgt := 38) C dX7_fewestHeads_9 (by decide) e1 e2 (fun e5 => ?_) (fun e5 => ?_)
    · have h := e3 e5
      refine v_iconst C dX7_fewestHeads_38 ?_
      exact v_iret C E dX7_fewestHeads_39 h
    · have h := e4 e5
      refine v_aload_n C 0 dX7_fewestHeads_12 rfl ?_
      refine v_iload_n C 3 dX7_fewestHeads_13 rfl ?_
      refine v_iload C 4 dX7_fewestHeads_14 rfl ?_
      refine v_aload_n C 1 dX7_fewestHeads_16 rfl ?_
      refine v_iload_n C 2 dX7_fewestHeads_17 rfl ?_
      refine v_cVI C kX3 ho1 (s_X3_pull G l0 ho1 h) mv_X3_pull wd_694 ⟨by decide, by decide⟩ rfl rfl (Nat.le_of_ble_eq_true rfl) dX7_fewestHeads_18 (fun r2 T1 h => ?_)
      refine v_imul C dX7_fewestHeads_21 ?_
      refine v_isub C dX7_fewestHeads_22 ?_
      refine v_cVI C kX7 rfl (s_X7_countAt G l0 h) mv_X7_countAt wd_699 ⟨by decide, by decide⟩ rfl rfl (Nat.le_of_ble_eq_true rfl) dX7_fewestHeads_23 (fun r4 T3 h => ?_)
      obtain ⟨e6, e7, e8⟩ := h
      refine v_if_le (tgt := 32) C dX7_fewestHeads_26 (by decide) e6 (fun e9 => ?_) (fun e9 => ?_)
      · have h := e7 e9
        refine v_iinc C 4 dX7_fewestHeads_32 rfl (by decide) ?_
        refine v_goto (tgt := 3) C dX7_fewestHeads_35 (by decide) ?_
        exact v_sub [1, 2, 3, 4, 0] rfl (ih _ _ h)
      · have h := e8 e9
        refine v_iload C 4 dX7_fewestHeads_29 rfl ?_
        exact v_iret C E dX7_fewestHeads_31 h
set_option maxRecDepth 100000 in
theorem s_X7_fewestHeads (G : GT) (l0 : Launch) {o1 : Nat} {v2 : Int} {v3 : Int} {T : TH} {Q : Int → TH → Prop} (ho1 : clsO o1 = 3) (h : wp_X7_fewestHeads o1 v2 v3 T Q) : MT G l0 yX7_fewestHeads cX7_fewestHeads 5 (some .int) 2 42 [.ref (gad G 10), .ref (gad G o1), .int (zI v2), .int (zI v3)] T (QI G Q) := by
  refine mt_of G l0 (by decide) (Nat.le_of_ble_eq_true rfl) (fun X C E => ?_)
  show V G X T 0 [(0, .ref (gad G 10)), (1, .ref (gad G o1)), (2, .int (zI v2)), (3, .int (zI v3))] []
  unfold wp_X7_fewestHeads at h
  refine v_iconst C dX7_fewestHeads_0 ?_
  refine v_istore C dX7_fewestHeads_1 (by decide) ?_
  obtain ⟨n9, h⟩ := h
  exact v_sub [1, 2, 3, 4, 0] rfl (t_X7_fewestHeads_3 C E ho1 n9 _ _ h)
def h_X7_mostHeads_8 (o1 : Nat) (v2 : Int) (v3 : Int) (Q : Int → TH → Prop) : Nat → Int → TH → Prop
  | 0, _, _ => False
  | n + 1, v4, T => zR v4 ∧ (v4 < 0 → (Q (-1) T)) ∧ (¬ (v4 < 0) → (wp_X3_pull o1 v2 T (fun r2 T1 => wp_X7_countAt (v3 - (v4 * r2)) T1 (fun r4 T3 => zR r4 ∧ (r4 ≤ 0 → ((h_X7_mostHeads_8 o1 v2 v3 Q n) (v4 + (-1)) T3)) ∧ (¬ (r4 ≤ 0) → (Q v4 T3))))))
def wp_X7_mostHeads (o1 : Nat) (v2 : Int) (v3 : Int) (T : TH) (Q : Int → TH → Prop) : Prop :=
  ∀ w1 : Int, w1 = ((T o1 0 0) - 1) → (∃ m9 : Nat, h_X7_mostHeads_8 o1 v2 v3 Q m9 w1 T)
set_option maxRecDepth 100000 in
theorem t_X7_mostHeads_8 {G : GT} {l0 : Launch} {X : CX} (C : CT G l0 X cX7_mostHeads 5 RX7 (rM 2 42)) {Q : Int → TH → Prop} (E : EN G X (some .int) (QI G Q)) {o1 : Nat} {v2 : Int} {v3 : Int} (ho1 : clsO o1 = 3) : ∀ (n : Nat) (v4 : Int) (T : TH), h_X7_mostHeads_8 o1 v2 v3 Q n v4 T → V G X T 8 [(0, .ref (gad G 10)), (1, .ref (gad G o1)), (2, .int (zI v2)), (3, .int (zI v3)), (4, .int (zI v4))] [] := by
  intro n
  induction n with
  | zero =>
    intro v4 T h
    exact h.elim
  | succ n ih =>
    intro v4 T h
    rw [h_X7_mostHeads_8] at h
    refine v_iload C 4 dX7_mostHeads_8 rfl ?_
    obtain ⟨e1, e2, e3⟩ := h
    refine v_if_lt (tgt := 39) C dX7_mostHeads_10 (by decide) e1 (fun e4 => ?_) (fun e4 => ?_)
    · have h := e2 e4
      refine v_iconst C dX7_mostHeads_39 ?_
      exact v_iret C E dX7_mostHeads_40 h
    · have h := e3 e4
      refine v_aload_n C 0 dX7_mostHeads_13 rfl ?_
      refine v_iload_n C 3 dX7_mostHeads_14 rfl ?_
      refine v_iload C 4 dX7_mostHeads_15 rfl ?_
      refine v_aload_n C 1 dX7_mostHeads_17 rfl ?_
      refine v_iload_n C 2 dX7_mostHeads_18 rfl ?_
      refine v_cVI C kX3 ho1 (s_X3_pull G l0 ho1 h) mv_X3_pull wd_694 ⟨by decide, by decide⟩ rfl rfl (Nat.le_of_ble_eq_true rfl) dX7_mostHeads_19 (fun r2 T1 h => ?_)
      refine v_imul C dX7_mostHeads_22 ?_
      refine v_isub C dX7_mostHeads_23 ?_
      refine v_cVI C kX7 rfl (s_X7_countAt G l0 h) mv_X7_countAt wd_699 ⟨by decide, by decide⟩ rfl rfl (Nat.le_of_ble_eq_true rfl) dX7_mostHeads_24 (fun r4 T3 h => ?_)
      obtain ⟨e5, e6, e7⟩ := h
      refine v_if_le (tgt := 33) C dX7_mostHeads_27 (by decide) e5 (fun e8 => ?_) (fun e8 => ?_)
      · have h := e6 e8
        refine v_iinc C 4 dX7_mostHeads_33 rfl (by decide) ?_
        refine v_goto (tgt := 8) C dX7_mostHeads_36 (by decide) ?_
        exact v_sub [1, 2, 3, 4, 0] rfl (ih _ _ h)
      · have h := e7 e8
        refine v_iload C 4 dX7_mostHeads_30 rfl ?_
        exact v_iret C E dX7_mostHeads_32 h
set_option maxRecDepth 100000 in
theorem s_X7_mostHeads (G : GT) (l0 : Launch) {o1 : Nat} {v2 : Int} {v3 : Int} {T : TH} {Q : Int → TH → Prop} (ho1 : clsO o1 = 3) (h : wp_X7_mostHeads o1 v2 v3 T Q) : MT G l0 yX7_mostHeads cX7_mostHeads 5 (some .int) 2 42 [.ref (gad G 10), .ref (gad G o1), .int (zI v2), .int (zI v3)] T (QI G Q) := by
  refine mt_of G l0 (by decide) (Nat.le_of_ble_eq_true rfl) (fun X C E => ?_)
  show V G X T 0 [(0, .ref (gad G 10)), (1, .ref (gad G o1)), (2, .int (zI v2)), (3, .int (zI v3))] []
  unfold wp_X7_mostHeads at h
  refine v_aload_n C 1 dX7_mostHeads_0 rfl ?_
  refine v_getI C kX3 0 ho1 rfl wd_119 rfl dX7_mostHeads_1 ?_
  refine v_iconst C dX7_mostHeads_4 ?_
  refine v_isub C dX7_mostHeads_5 ?_
  refine v_istore C dX7_mostHeads_6 (by decide) ?_
  have h := h _ rfl
  obtain ⟨n9, h⟩ := h
  exact v_sub [1, 2, 3, 4, 0] rfl (t_X7_mostHeads_8 C E ho1 n9 _ _ h)
def wp_X8_feed (v1 : Int) (T : TH) (Q : Int → TH → Prop) : Prop :=
  zR v1 ∧ (v1 < 0 → (Q (-1000000002) T)) ∧ (¬ (v1 < 0) → (zR v1 ∧ (v1 ≤ 255 → (wp_X4_add v1 T (fun r2 T1 => Q r2 T1))) ∧ (¬ (v1 ≤ 255) → (Q (-1000000002) T))))
set_option maxRecDepth 100000 in
theorem s_X8_feed (G : GT) (l0 : Launch) {v1 : Int} {T : TH} {Q : Int → TH → Prop} (h : wp_X8_feed v1 T Q) : MT G l0 yX8_feed cX8_feed 2 (some .int) 1 21 [.ref (gad G 0), .int (zI v1)] T (QI G Q) := by
  refine mt_of G l0 (by decide) (Nat.le_of_ble_eq_true rfl) (fun X C E => ?_)
  show V G X T 0 [(0, .ref (gad G 0)), (1, .int (zI v1))] []
  unfold wp_X8_feed at h
  refine v_iload_n C 1 dX8_feed_0 rfl ?_
  obtain ⟨e1, e2, e3⟩ := h
  refine v_if_lt (tgt := 11) C dX8_feed_1 (by decide) e1 (fun e4 => ?_) (fun e4 => ?_)
  · have h := e2 e4
    refine v_ldc (n := -1000000002) C dX8_feed_11 wd_358 (by decide) ?_
    exact v_iret C E dX8_feed_13 h
  · have h := e3 e4
    refine v_iload_n C 1 dX8_feed_4 rfl ?_
    refine v_sipush C dX8_feed_5 (by decide) ?_
    obtain ⟨e5, e6, e7⟩ := h
    refine v_icmp_le (tgt := 14) C dX8_feed_8 (by decide) e5 ⟨by decide, by decide⟩ (fun e8 => ?_) (fun e8 => ?_)
    · have h := e6 e8
      refine v_aload_n C 0 dX8_feed_14 rfl ?_
      refine v_getC C kX8 0 rfl rfl wd_317 rfl dX8_feed_15 ?_
      refine v_iload_n C 1 dX8_feed_18 rfl ?_
      refine v_cVI C kX4 rfl (s_X4_add G l0 h) mv_X4_add wd_359 ⟨by decide, by decide⟩ rfl rfl (Nat.le_of_ble_eq_true rfl) dX8_feed_19 (fun r2 T1 h => ?_)
      exact v_iret C E dX8_feed_22 h
    · have h := e7 e8
      refine v_ldc (n := -1000000002) C dX8_feed_11 wd_358 (by decide) ?_
      exact v_iret C E dX8_feed_13 h
def wp_X8_land (T : TH) (Q : Int → TH → Prop) : Prop :=
  wp_X4_readInto ((T 0 2 0).toNat) T (fun r2 T1 => ∀ T3 : TH, T3 = up T1 1 1 0 0 → zR r2 ∧ (r2 = 0 → (∀ T4 : TH, T4 = up T3 0 1 0 ((T3 0 2 0).toNat : Nat) → ∀ T5 : TH, T5 = up T4 0 2 0 ((T3 0 1 0).toNat : Nat) → wp_X2_begin 4 ((T5 0 1 0).toNat) T5 (fun T6 => ∀ T7 : TH, T7 = up T6 8 0 0 0 → ∀ T8 : TH, T8 = up T7 0 6 0 0 → Q (T8 (T8 0 1 0).toNat 0 0) T8))) ∧ (¬ (r2 = 0) → (Q ((-10) - r2) T3)))
set_option maxRecDepth 100000 in
theorem s_X8_land (G : GT) (l0 : Launch) {T : TH} {Q : Int → TH → Prop} (h : wp_X8_land T Q) : MT G l0 yX8_land cX8_land 3 (some .int) 7 153 [.ref (gad G 0)] T (QI G Q) := by
  refine mt_of G l0 (by decide) (Nat.le_of_ble_eq_true rfl) (fun X C E => ?_)
  show V G X T 0 [(0, .ref (gad G 0))] []
  unfold wp_X8_land at h
  refine v_aload_n C 0 dX8_land_0 rfl ?_
  refine v_getC C kX8 0 rfl rfl wd_317 rfl dX8_land_1 ?_
  refine v_aload_n C 0 dX8_land_4 rfl ?_
  refine v_getL2 C wd_319 dX8_land_5 (fun e1 => ?_)
  refine v_cVI C kX4 rfl (s_X4_readInto G l0 e1 h) mv_X4_readInto wd_368 ⟨by decide, by decide⟩ rfl rfl (Nat.le_of_ble_eq_true rfl) dX8_land_8 (fun r2 T1 h => ?_)
  refine v_istore_n C dX8_land_11 rfl (by decide) ?_
  refine v_aload_n C 1 dX8_land_12 rfl ?_
  refine v_getC C kX8 0 rfl rfl wd_317 rfl dX8_land_13 ?_
  refine v_iconst C dX8_land_16 ?_
  refine v_putI C kX4 1 rfl rfl wd_91 rfl rfl (tyX4_ok 1 (by decide)) dX8_land_17 ?_
  have h := h _ rfl
  refine v_iload_n C 0 dX8_land_20 rfl ?_
  obtain ⟨e2, e3, e4⟩ := h
  refine v_if_eq (tgt := 29) C dX8_land_21 (by decide) e2 (fun e5 => ?_) (fun e5 => ?_)
  · have h := e3 e5
    refine v_aload_n C 1 dX8_land_29 rfl ?_
    refine v_getL1 C wd_318 dX8_land_30 (fun e6 => ?_)
    refine v_astore_n C dX8_land_33 rfl (by decide) ?_
    refine v_aload_n C 2 dX8_land_34 rfl ?_
    refine v_aload_n C 2 dX8_land_35 rfl ?_
    refine v_getL2 C wd_319 dX8_land_36 (fun e7 => ?_)
    refine v_putL1 C e7 wd_318 dX8_land_39 ?_
    have h := h _ rfl
    refine v_aload_n C 2 dX8_land_42 rfl ?_
    refine v_aload_n C 0 dX8_land_43 rfl ?_
    refine v_putL2 C e6 wd_319 dX8_land_44 ?_
    have h := h _ rfl
    refine v_aload_n C 2 dX8_land_47 rfl ?_
    refine v_getC C kX8 3 rfl rfl wd_320 rfl dX8_land_48 ?_
    refine v_aload_n C 2 dX8_land_51 rfl ?_
    refine v_getL1 C wd_318 dX8_land_52 (fun e8 => ?_)
    refine v_cVN C kX2 rfl (s_X2_begin G l0 rfl e8 h) mv_X2_begin wd_458 ⟨by decide, by decide⟩ rfl rfl (Nat.le_of_ble_eq_true rfl) dX8_land_55 (fun T6 h => ?_)
    refine v_aload_n C 2 dX8_land_58 rfl ?_
    refine v_getC C kX8 7 rfl rfl wd_324 rfl dX8_land_59 ?_
    refine v_iconst C dX8_land_62 ?_
    refine v_putI C kX6 0 rfl rfl wd_240 rfl rfl (tyX6_ok 0 (by decide)) dX8_land_63 ?_
    have h := h _ rfl
    refine v_aload_n C 2 dX8_land_66 rfl ?_
    refine v_iconst C dX8_land_67 ?_
    refine v_putI C kX8 6 rfl rfl wd_323 rfl rfl (tyX8_ok 6 (by decide)) dX8_land_68 ?_
    have h := h _ rfl
    refine v_aload_n C 2 dX8_land_71 rfl ?_
    refine v_getL1 C wd_318 dX8_land_72 (fun e9 => ?_)
    refine v_getI C kX3 0 e9 rfl wd_120 rfl dX8_land_75 ?_
    exact v_iret C E dX8_land_78 h
  · have h := e4 e5
    refine v_bipush C dX8_land_24 (by decide) ?_
    refine v_iload_n C 0 dX8_land_26 rfl ?_
    refine v_isub C dX8_land_27 ?_
    exact v_iret C E dX8_land_28 h
def wp_X8_fault (T : TH) (Q : Int → TH → Prop) : Prop :=
  Q (T 1 2 0) T
set_option maxRecDepth 100000 in
theorem s_X8_fault (G : GT) (l0 : Launch) {T : TH} {Q : Int → TH → Prop} (h : wp_X8_fault T Q) : MT G l0 yX8_fault cX8_fault 1 (some .int) 0 0 [.ref (gad G 0)] T (QI G Q) := by
  refine mt_of G l0 (by decide) (Nat.le_of_ble_eq_true rfl) (fun X C E => ?_)
  show V G X T 0 [(0, .ref (gad G 0))] []
  unfold wp_X8_fault at h
  refine v_aload_n C 0 dX8_fault_0 rfl ?_
  refine v_getC C kX8 0 rfl rfl wd_317 rfl dX8_fault_1 ?_
  refine v_getI C kX4 2 rfl rfl wd_93 rfl dX8_fault_4 ?_
  exact v_iret C E dX8_fault_7 h
def wp_X8_told (v1 : Int) (T : TH) (Q : Int → TH → Prop) : Prop :=
  zR v1 ∧ (v1 = 0 → (Q (T (T 0 1 0).toNat 0 0) T)) ∧ (v1 = 1 → (Q (T (T 0 1 0).toNat 1 0) T)) ∧ (v1 = 2 → (Q (T (T 0 1 0).toNat 2 0) T)) ∧ (v1 = 3 → (Q (T (T 0 1 0).toNat 3 0) T)) ∧ (v1 = 4 → (Q (T (T 0 1 0).toNat 4 0) T)) ∧ (v1 = 5 → (Q (T 1 1 0) T)) ∧ (v1 = 6 → (Q (T 4 0 0) T)) ∧ (v1 = 7 → (Q (T (T 0 1 0).toNat 5 0) T)) ∧ (v1 = 8 → (wp_X2_allHeads 4 ((T 0 1 0).toNat) T (fun r2 T1 => Q r2 T1))) ∧ (v1 = 9 → (Q (T 8 0 0) T)) ∧ (¬ v1 = 0 → ¬ v1 = 1 → ¬ v1 = 2 → ¬ v1 = 3 → ¬ v1 = 4 → ¬ v1 = 5 → ¬ v1 = 6 → ¬ v1 = 7 → ¬ v1 = 8 → ¬ v1 = 9 → (Q (-1000000002) T))
set_option maxRecDepth 100000 in
theorem s_X8_told (G : GT) (l0 : Launch) {v1 : Int} {T : TH} {Q : Int → TH → Prop} (h : wp_X8_told v1 T Q) : MT G l0 yX8_told cX8_told 2 (some .int) 3 65 [.ref (gad G 0), .int (zI v1)] T (QI G Q) := by
  refine mt_of G l0 (by decide) (Nat.le_of_ble_eq_true rfl) (fun X C E => ?_)
  show V G X T 0 [(0, .ref (gad G 0)), (1, .int (zI v1))] []
  unfold wp_X8_told at h
  refine v_iload_n C 1 dX8_told_0 rfl ?_
  obtain ⟨e1, h⟩ := h
  obtain ⟨e9, e10, e11, e12, e13, e14, e15, e16, e17, e18, e19⟩ := h
  by_cases e21 : v1 = 0
  · have h := e9 e21
    refine v_tin (off := 55) (tgt := 56) C dX8_told_1 e1 0 e21 (by decide) (by decide) (by decide) (by decide) ?_
    refine v_aload_n C 0 dX8_told_56 rfl ?_
    refine v_getL1 C wd_318 dX8_told_57 (fun e2 => ?_)
    refine v_getI C kX3 0 e2 rfl wd_120 rfl dX8_told_60 ?_
    exact v_iret C E dX8_told_63 h
  by_cases e22 : v1 = 1
  · have h := e10 e22
    refine v_tin (off := 63) (tgt := 64) C dX8_told_1 e1 1 e22 (by decide) (by decide) (by decide) (by decide) ?_
    refine v_aload_n C 0 dX8_told_64 rfl ?_
    refine v_getL1 C wd_318 dX8_told_65 (fun e3 => ?_)
    refine v_getI C kX3 1 e3 rfl wd_128 rfl dX8_told_68 ?_
    exact v_iret C E dX8_told_71 h
  by_cases e23 : v1 = 2
  · have h := e11 e23
    refine v_tin (off := 71) (tgt := 72) C dX8_told_1 e1 2 e23 (by decide) (by decide) (by decide) (by decide) ?_
    refine v_aload_n C 0 dX8_told_72 rfl ?_
    refine v_getL1 C wd_318 dX8_told_73 (fun e4 => ?_)
    refine v_getI C kX3 2 e4 rfl wd_131 rfl dX8_told_76 ?_
    exact v_iret C E dX8_told_79 h
  by_cases e24 : v1 = 3
  · have h := e12 e24
    refine v_tin (off := 79) (tgt := 80) C dX8_told_1 e1 3 e24 (by decide) (by decide) (by decide) (by decide) ?_
    refine v_aload_n C 0 dX8_told_80 rfl ?_
    refine v_getL1 C wd_318 dX8_told_81 (fun e5 => ?_)
    refine v_getI C kX3 3 e5 rfl wd_134 rfl dX8_told_84 ?_
    exact v_iret C E dX8_told_87 h
  by_cases e25 : v1 = 4
  · have h := e13 e25
    refine v_tin (off := 87) (tgt := 88) C dX8_told_1 e1 4 e25 (by decide) (by decide) (by decide) (by decide) ?_
    refine v_aload_n C 0 dX8_told_88 rfl ?_
    refine v_getL1 C wd_318 dX8_told_89 (fun e6 => ?_)
    refine v_getI C kX3 4 e6 rfl wd_137 rfl dX8_told_92 ?_
    exact v_iret C E dX8_told_95 h
  by_cases e26 : v1 = 5
  · have h := e14 e26
    refine v_tin (off := 95) (tgt := 96) C dX8_told_1 e1 5 e26 (by decide) (by decide) (by decide) (by decide) ?_
    refine v_aload_n C 0 dX8_told_96 rfl ?_
    refine v_getC C kX8 0 rfl rfl wd_317 rfl dX8_told_97 ?_
    refine v_getI C kX4 1 rfl rfl wd_91 rfl dX8_told_100 ?_
    exact v_iret C E dX8_told_103 h
  by_cases e27 : v1 = 6
  · have h := e15 e27
    refine v_tin (off := 103) (tgt := 104) C dX8_told_1 e1 6 e27 (by decide) (by decide) (by decide) (by decide) ?_
    refine v_aload_n C 0 dX8_told_104 rfl ?_
    refine v_getC C kX8 3 rfl rfl wd_320 rfl dX8_told_105 ?_
    refine v_getI C kX2 0 rfl rfl wd_214 rfl dX8_told_108 ?_
    exact v_iret C E dX8_told_111 h
  by_cases e28 : v1 = 7
  · have h := e16 e28
    refine v_tin (off := 111) (tgt := 112) C dX8_told_1 e1 7 e28 (by decide) (by decide) (by decide) (by decide) ?_
    refine v_aload_n C 0 dX8_told_112 rfl ?_
    refine v_getL1 C wd_318 dX8_told_113 (fun e7 => ?_)
    refine v_getI C kX3 5 e7 rfl wd_141 rfl dX8_told_116 ?_
    exact v_iret C E dX8_told_119 h
  by_cases e29 : v1 = 8
  · have h := e17 e29
    refine v_tin (off := 119) (tgt := 120) C dX8_told_1 e1 8 e29 (by decide) (by decide) (by decide) (by decide) ?_
    refine v_aload_n C 0 dX8_told_120 rfl ?_
    refine v_getC C kX8 3 rfl rfl wd_320 rfl dX8_told_121 ?_
    refine v_aload_n C 0 dX8_told_124 rfl ?_
    refine v_getL1 C wd_318 dX8_told_125 (fun e8 => ?_)
    refine v_cVI C kX2 rfl (s_X2_allHeads G l0 rfl e8 h) mv_X2_allHeads wd_471 ⟨by decide, by decide⟩ rfl rfl (Nat.le_of_ble_eq_true rfl) dX8_told_128 (fun r2 T1 h => ?_)
    exact v_iret C E dX8_told_131 h
  by_cases e30 : v1 = 9
  · have h := e18 e30
    refine v_tin (off := 131) (tgt := 132) C dX8_told_1 e1 9 e30 (by decide) (by decide) (by decide) (by decide) ?_
    refine v_aload_n C 0 dX8_told_132 rfl ?_
    refine v_getC C kX8 7 rfl rfl wd_324 rfl dX8_told_133 ?_
    refine v_getI C kX6 0 rfl rfl wd_240 rfl dX8_told_136 ?_
    exact v_iret C E dX8_told_139 h
  have h := e19 e21 e22 e23 e24 e25 e26 e27 e28 e29 e30
  refine v_tout (tgt := 140) C dX8_told_1 e1 (by omega) (by decide) ?_
  refine v_ldc (n := -1000000002) C dX8_told_140 wd_358 (by decide) ?_
  exact v_iret C E dX8_told_142 h
def wp_X8_fact (v1 : Int) (v2 : Int) (T : TH) (Q : Int → TH → Prop) : Prop :=
  wp_X3_hasFact ((T 0 1 0).toNat) v1 T (fun p2 T1 => (p2 = true → (zR v2 ∧ (v2 = 0 → (0 ≤ v1 ∧ v1 < 8 ∧ Q (T1 (T1 0 1 0).toNat 8 v1) T1)) ∧ (v2 = 1 → (0 ≤ v1 ∧ v1 < 8 ∧ Q (T1 (T1 0 1 0).toNat 9 v1) T1)) ∧ (v2 = 2 → (wp_X3_isLie ((T1 0 1 0).toNat) v1 T1 (fun p4 T3 => (p4 = false → (Q 0 T3)) ∧ (p4 = true → (Q 1 T3))))) ∧ (v2 = 3 → (0 ≤ v1 ∧ v1 < 8 ∧ Q (T1 4 2 v1) T1)) ∧ (v2 = 4 → (wp_X2_headsOf 4 ((T1 0 1 0).toNat) v1 T1 (fun r6 T5 => Q r6 T5))) ∧ (¬ v2 = 0 → ¬ v2 = 1 → ¬ v2 = 2 → ¬ v2 = 3 → ¬ v2 = 4 → (Q (-1000000002) T1)))) ∧ (p2 = false → (Q (-1000000001) T1)))
set_option maxRecDepth 100000 in
theorem s_X8_fact (G : GT) (l0 : Launch) {v1 : Int} {v2 : Int} {T : TH} {Q : Int → TH → Prop} (h : wp_X8_fact v1 v2 T Q) : MT G l0 yX8_fact cX8_fact 3 (some .int) 2 42 [.ref (gad G 0), .int (zI v1), .int (zI v2)] T (QI G Q) := by
  refine mt_of G l0 (by decide) (Nat.le_of_ble_eq_true rfl) (fun X C E => ?_)
  show V G X T 0 [(0, .ref (gad G 0)), (1, .int (zI v1)), (2, .int (zI v2))] []
  unfold wp_X8_fact at h
  refine v_aload_n C 0 dX8_fact_0 rfl ?_
  refine v_getL1 C wd_318 dX8_fact_1 (fun e1 => ?_)
  refine v_iload_n C 1 dX8_fact_4 rfl ?_
  refine v_cVZ C kX3 e1 (s_X3_hasFact G l0 e1 h) mv_X3_hasFact wd_489 ⟨by decide, by decide⟩ rfl rfl (Nat.le_of_ble_eq_true rfl) dX8_fact_5 (fun p2 T1 h => ?_)
  obtain ⟨e2, e3⟩ := h
  refine v_ifz_ne (tgt := 14) C dX8_fact_8 (by decide) (fun e4 => ?_) (fun e4 => ?_)
  · have h := e2 e4
    refine v_iload_n C 2 dX8_fact_14 rfl ?_
    obtain ⟨e5, h⟩ := h
    obtain ⟨e19, e20, e21, e22, e23, e24⟩ := h
    by_cases e26 : v2 = 0
    · have h := e19 e26
      refine v_tin (off := 33) (tgt := 48) C dX8_fact_15 e5 0 e26 (by decide) (by decide) (by decide) (by decide) ?_
      refine v_aload_n C 0 dX8_fact_48 rfl ?_
      refine v_getL1 C wd_318 dX8_fact_49 (fun e6 => ?_)
      refine v_getA C kX3 8 e6 rfl wd_151 rfl dX8_fact_52 ?_
      refine v_iload_n C 1 dX8_fact_55 rfl ?_
      obtain ⟨e7, e8, h⟩ := h
      refine v_iald C (ar_of e6 ar_3_8) dX8_fact_56 e7 e8 ?_
      exact v_iret C E dX8_fact_57 h
    by_cases e27 : v2 = 1
    · have h := e20 e27
      refine v_tin (off := 43) (tgt := 58) C dX8_fact_15 e5 1 e27 (by decide) (by decide) (by decide) (by decide) ?_
      refine v_aload_n C 0 dX8_fact_58 rfl ?_
      refine v_getL1 C wd_318 dX8_fact_59 (fun e9 => ?_)
      refine v_getA C kX3 9 e9 rfl wd_156 rfl dX8_fact_62 ?_
      refine v_iload_n C 1 dX8_fact_65 rfl ?_
      obtain ⟨e10, e11, h⟩ := h
      refine v_iald C (ar_of e9 ar_3_9) dX8_fact_66 e10 e11 ?_
      exact v_iret C E dX8_fact_67 h
    by_cases e28 : v2 = 2
    · have h := e21 e28
      refine v_tin (off := 53) (tgt := 68) C dX8_fact_15 e5 2 e28 (by decide) (by decide) (by decide) (by decide) ?_
      refine v_aload_n C 0 dX8_fact_68 rfl ?_
      refine v_getL1 C wd_318 dX8_fact_69 (fun e12 => ?_)
      refine v_iload_n C 1 dX8_fact_72 rfl ?_
      refine v_cVZ C kX3 e12 (s_X3_isLie G l0 e12 h) mv_X3_isLie wd_494 ⟨by decide, by decide⟩ rfl rfl (Nat.le_of_ble_eq_true rfl) dX8_fact_73 (fun p4 T3 h => ?_)
      obtain ⟨e13, e14⟩ := h
      refine v_ifz_eq (tgt := 83) C dX8_fact_76 (by decide) (fun e15 => ?_) (fun e15 => ?_)
      · have h := e13 e15
        refine v_iconst C dX8_fact_83 ?_
        exact v_iret C E dX8_fact_84 h
      · have h := e14 e15
        refine v_iconst C dX8_fact_79 ?_
        refine v_goto (tgt := 84) C dX8_fact_80 (by decide) ?_
        exact v_iret C E dX8_fact_84 h
    by_cases e29 : v2 = 3
    · have h := e22 e29
      refine v_tin (off := 70) (tgt := 85) C dX8_fact_15 e5 3 e29 (by decide) (by decide) (by decide) (by decide) ?_
      refine v_aload_n C 0 dX8_fact_85 rfl ?_
      refine v_getC C kX8 3 rfl rfl wd_320 rfl dX8_fact_86 ?_
      refine v_getA C kX2 2 rfl rfl wd_218 rfl dX8_fact_89 ?_
      refine v_iload_n C 1 dX8_fact_92 rfl ?_
      obtain ⟨e16, e17, h⟩ := h
      refine v_iald C (ar_of (o := 4) rfl ar_2_2) dX8_fact_93 e16 e17 ?_
      exact v_iret C E dX8_fact_94 h
    by_cases e30 : v2 = 4
    · have h := e23 e30
      refine v_tin (off := 80) (tgt := 95) C dX8_fact_15 e5 4 e30 (by decide) (by decide) (by decide) (by decide) ?_
      refine v_aload_n C 0 dX8_fact_95 rfl ?_
      refine v_getC C kX8 3 rfl rfl wd_320 rfl dX8_fact_96 ?_
      refine v_aload_n C 0 dX8_fact_99 rfl ?_
      refine v_getL1 C wd_318 dX8_fact_100 (fun e18 => ?_)
      refine v_iload_n C 1 dX8_fact_103 rfl ?_
      refine v_cVI C kX2 rfl (s_X2_headsOf G l0 rfl e18 h) mv_X2_headsOf wd_498 ⟨by decide, by decide⟩ rfl rfl (Nat.le_of_ble_eq_true rfl) dX8_fact_104 (fun r6 T5 h => ?_)
      exact v_iret C E dX8_fact_107 h
    have h := e24 e26 e27 e28 e29 e30
    refine v_tout (tgt := 108) C dX8_fact_15 e5 (by omega) (by decide) ?_
    refine v_ldc (n := -1000000002) C dX8_fact_108 wd_358 (by decide) ?_
    exact v_iret C E dX8_fact_110 h
  · have h := e3 e4
    refine v_ldc (n := -1000000001) C dX8_fact_11 wd_493 (by decide) ?_
    exact v_iret C E dX8_fact_13 h
def wp_X8_person (v1 : Int) (v2 : Int) (T : TH) (Q : Int → TH → Prop) : Prop :=
  wp_X3_hasPerson ((T 0 1 0).toNat) v1 T (fun p2 T1 => (p2 = true → (zR v2 ∧ (v2 = 0 → (0 ≤ v1 ∧ v1 < 7 ∧ Q (T1 (T1 0 1 0).toNat 12 v1) T1)) ∧ (v2 = 1 → (0 ≤ v1 ∧ v1 < 7 ∧ Q (T1 (T1 0 1 0).toNat 11 v1) T1)) ∧ (v2 = 2 → (wp_X2_factsIn 4 v1 T1 (fun r4 T3 => Q r4 T3))) ∧ (v2 = 3 → (wp_X3_isQuiet ((T1 0 1 0).toNat) v1 T1 (fun p6 T5 => (p6 = false → (Q 0 T5)) ∧ (p6 = true → (Q 1 T5))))) ∧ (¬ v2 = 0 → ¬ v2 = 1 → ¬ v2 = 2 → ¬ v2 = 3 → (Q (-1000000002) T1)))) ∧ (p2 = false → (Q (-1000000001) T1)))
set_option maxRecDepth 100000 in
theorem s_X8_person (G : GT) (l0 : Launch) {v1 : Int} {v2 : Int} {T : TH} {Q : Int → TH → Prop} (h : wp_X8_person v1 v2 T Q) : MT G l0 yX8_person cX8_person 3 (some .int) 1 23 [.ref (gad G 0), .int (zI v1), .int (zI v2)] T (QI G Q) := by
  refine mt_of G l0 (by decide) (Nat.le_of_ble_eq_true rfl) (fun X C E => ?_)
  show V G X T 0 [(0, .ref (gad G 0)), (1, .int (zI v1)), (2, .int (zI v2))] []
  unfold wp_X8_person at h
  refine v_aload_n C 0 dX8_person_0 rfl ?_
  refine v_getL1 C wd_318 dX8_person_1 (fun e1 => ?_)
  refine v_iload_n C 1 dX8_person_4 rfl ?_
  refine v_cVZ C kX3 e1 (s_X3_hasPerson G l0 e1 h) mv_X3_hasPerson wd_503 ⟨by decide, by decide⟩ rfl rfl (Nat.le_of_ble_eq_true rfl) dX8_person_5 (fun p2 T1 h => ?_)
  obtain ⟨e2, e3⟩ := h
  refine v_ifz_ne (tgt := 14) C dX8_person_8 (by decide) (fun e4 => ?_) (fun e4 => ?_)
  · have h := e2 e4
    refine v_iload_n C 2 dX8_person_14 rfl ?_
    obtain ⟨e5, h⟩ := h
    obtain ⟨e16, e17, e18, e19, e20⟩ := h
    by_cases e22 : v2 = 0
    · have h := e16 e22
      refine v_tin (off := 29) (tgt := 44) C dX8_person_15 e5 0 e22 (by decide) (by decide) (by decide) (by decide) ?_
      refine v_aload_n C 0 dX8_person_44 rfl ?_
      refine v_getL1 C wd_318 dX8_person_45 (fun e6 => ?_)
      refine v_getA C kX3 12 e6 rfl wd_166 rfl dX8_person_48 ?_
      refine v_iload_n C 1 dX8_person_51 rfl ?_
      obtain ⟨e7, e8, h⟩ := h
      refine v_iald C (ar_of e6 ar_3_12) dX8_person_52 e7 e8 ?_
      exact v_iret C E dX8_person_53 h
    by_cases e23 : v2 = 1
    · have h := e17 e23
      refine v_tin (off := 39) (tgt := 54) C dX8_person_15 e5 1 e23 (by decide) (by decide) (by decide) (by decide) ?_
      refine v_aload_n C 0 dX8_person_54 rfl ?_
      refine v_getL1 C wd_318 dX8_person_55 (fun e9 => ?_)
      refine v_getA C kX3 11 e9 rfl wd_163 rfl dX8_person_58 ?_
      refine v_iload_n C 1 dX8_person_61 rfl ?_
      obtain ⟨e10, e11, h⟩ := h
      refine v_iald C (ar_of e9 ar_3_11) dX8_person_62 e10 e11 ?_
      exact v_iret C E dX8_person_63 h
    by_cases e24 : v2 = 2
    · have h := e18 e24
      refine v_tin (off := 49) (tgt := 64) C dX8_person_15 e5 2 e24 (by decide) (by decide) (by decide) (by decide) ?_
      refine v_aload_n C 0 dX8_person_64 rfl ?_
      refine v_getC C kX8 3 rfl rfl wd_320 rfl dX8_person_65 ?_
      refine v_iload_n C 1 dX8_person_68 rfl ?_
      refine v_cVI C kX2 rfl (s_X2_factsIn G l0 rfl h) mv_X2_factsIn wd_507 ⟨by decide, by decide⟩ rfl rfl (Nat.le_of_ble_eq_true rfl) dX8_person_69 (fun r4 T3 h => ?_)
      exact v_iret C E dX8_person_72 h
    by_cases e25 : v2 = 3
    · have h := e19 e25
      refine v_tin (off := 58) (tgt := 73) C dX8_person_15 e5 3 e25 (by decide) (by decide) (by decide) (by decide) ?_
      refine v_aload_n C 0 dX8_person_73 rfl ?_
      refine v_getL1 C wd_318 dX8_person_74 (fun e12 => ?_)
      refine v_iload_n C 1 dX8_person_77 rfl ?_
      refine v_cVZ C kX3 e12 (s_X3_isQuiet G l0 e12 h) mv_X3_isQuiet wd_511 ⟨by decide, by decide⟩ rfl rfl (Nat.le_of_ble_eq_true rfl) dX8_person_78 (fun p6 T5 h => ?_)
      obtain ⟨e13, e14⟩ := h
      refine v_ifz_eq (tgt := 88) C dX8_person_81 (by decide) (fun e15 => ?_) (fun e15 => ?_)
      · have h := e13 e15
        refine v_iconst C dX8_person_88 ?_
        exact v_iret C E dX8_person_89 h
      · have h := e14 e15
        refine v_iconst C dX8_person_84 ?_
        refine v_goto (tgt := 89) C dX8_person_85 (by decide) ?_
        exact v_iret C E dX8_person_89 h
    have h := e20 e22 e23 e24 e25
    refine v_tout (tgt := 90) C dX8_person_15 e5 (by omega) (by decide) ?_
    refine v_ldc (n := -1000000002) C dX8_person_90 wd_358 (by decide) ?_
    exact v_iret C E dX8_person_92 h
  · have h := e3 e4
    refine v_ldc (n := -1000000001) C dX8_person_11 wd_493 (by decide) ?_
    exact v_iret C E dX8_person_13 h
def wp_X8_since (v1 : Int) (v2 : Int) (T : TH) (Q : Int → TH → Prop) : Prop :=
  wp_X3_hasPerson ((T 0 1 0).toNat) v1 T (fun p2 T1 => (p2 = false → (Q (-1000000001) T1)) ∧ (p2 = true → (wp_X3_hasFact ((T1 0 1 0).toNat) v2 T1 (fun p4 T3 => (p4 = true → (wp_X2_knows 4 v1 v2 T3 (fun p6 T5 => (p6 = false → (Q (-1) T5)) ∧ (p6 = true → (wp_X2_heardAt 4 v1 v2 T5 (fun r8 T7 => Q r8 T7)))))) ∧ (p4 = false → (Q (-1000000001) T3))))))
set_option maxRecDepth 100000 in
theorem s_X8_since (G : GT) (l0 : Launch) {v1 : Int} {v2 : Int} {T : TH} {Q : Int → TH → Prop} (h : wp_X8_since v1 v2 T Q) : MT G l0 yX8_since cX8_since 3 (some .int) 1 22 [.ref (gad G 0), .int (zI v1), .int (zI v2)] T (QI G Q) := by
  refine mt_of G l0 (by decide) (Nat.le_of_ble_eq_true rfl) (fun X C E => ?_)
  show V G X T 0 [(0, .ref (gad G 0)), (1, .int (zI v1)), (2, .int (zI v2))] []
  unfold wp_X8_since at h
  refine v_aload_n C 0 dX8_since_0 rfl ?_
  refine v_getL1 C wd_318 dX8_since_1 (fun e1 => ?_)
  refine v_iload_n C 1 dX8_since_4 rfl ?_
  refine v_cVZ C kX3 e1 (s_X3_hasPerson G l0 e1 h) mv_X3_hasPerson wd_503 ⟨by decide, by decide⟩ rfl rfl (Nat.le_of_ble_eq_true rfl) dX8_since_5 (fun p2 T1 h => ?_)
  obtain ⟨e2, e3⟩ := h
  refine v_ifz_eq (tgt := 22) C dX8_since_8 (by decide) (fun e4 => ?_) (fun e4 => ?_)
  · have h := e2 e4
    refine v_ldc (n := -1000000001) C dX8_since_22 wd_493 (by decide) ?_
    exact v_iret C E dX8_since_24 h
  · have h := e3 e4
    refine v_aload_n C 0 dX8_since_11 rfl ?_
    refine v_getL1 C wd_318 dX8_since_12 (fun e5 => ?_)
    refine v_iload_n C 2 dX8_since_15 rfl ?_
    refine v_cVZ C kX3 e5 (s_X3_hasFact G l0 e5 h) mv_X3_hasFact wd_489 ⟨by decide, by decide⟩ rfl rfl (Nat.le_of_ble_eq_true rfl) dX8_since_16 (fun p4 T3 h => ?_)
    obtain ⟨e6, e7⟩ := h
    refine v_ifz_ne (tgt := 25) C dX8_since_19 (by decide) (fun e8 => ?_) (fun e8 => ?_)
    · have h := e6 e8
      refine v_aload_n C 0 dX8_since_25 rfl ?_
      refine v_getC C kX8 3 rfl rfl wd_320 rfl dX8_since_26 ?_
      refine v_iload_n C 1 dX8_since_29 rfl ?_
      refine v_iload_n C 2 dX8_since_30 rfl ?_
      refine v_cVZ C kX2 rfl (s_X2_knows G l0 rfl h) mv_X2_knows wd_516 ⟨by decide, by decide⟩ rfl rfl (Nat.le_of_ble_eq_true rfl) dX8_since_31 (fun p6 T5 h => ?_)
      obtain ⟨e9, e10⟩ := h
      refine v_ifz_eq (tgt := 49) C dX8_since_34 (by decide) (fun e11 => ?_) (fun e11 => ?_)
      · have h := e9 e11
        refine v_iconst C dX8_since_49 ?_
        exact v_iret C E dX8_since_50 h
      · have h := e10 e11
        refine v_aload_n C 0 dX8_since_37 rfl ?_
        refine v_getC C kX8 3 rfl rfl wd_320 rfl dX8_since_38 ?_
        refine v_iload_n C 1 dX8_since_41 rfl ?_
        refine v_iload_n C 2 dX8_since_42 rfl ?_
        refine v_cVI C kX2 rfl (s_X2_heardAt G l0 rfl h) mv_X2_heardAt wd_520 ⟨by decide, by decide⟩ rfl rfl (Nat.le_of_ble_eq_true rfl) dX8_since_43 (fun r8 T7 h => ?_)
        refine v_goto (tgt := 50) C dX8_since_46 (by decide) ?_
        exact v_iret C E dX8_since_50 h
    · have h := e7 e8
      refine v_ldc (n := -1000000001) C dX8_since_22 wd_493 (by decide) ?_
      exact v_iret C E dX8_since_24 h
def wp_X8_weight (v1 : Int) (T : TH) (Q : Int → TH → Prop) : Prop :=
  wp_X3_hasPerson ((T 0 1 0).toNat) v1 T (fun p2 T1 => (p2 = false → (Q (-1000000001) T1)) ∧ (p2 = true → (wp_X2_load 4 ((T1 0 1 0).toNat) v1 T1 (fun r4 T3 => Q r4 T3))))
set_option maxRecDepth 100000 in
theorem s_X8_weight (G : GT) (l0 : Launch) {v1 : Int} {T : TH} {Q : Int → TH → Prop} (h : wp_X8_weight v1 T Q) : MT G l0 yX8_weight cX8_weight 2 (some .int) 4 89 [.ref (gad G 0), .int (zI v1)] T (QI G Q) := by
  refine mt_of G l0 (by decide) (Nat.le_of_ble_eq_true rfl) (fun X C E => ?_)
  show V G X T 0 [(0, .ref (gad G 0)), (1, .int (zI v1))] []
  unfold wp_X8_weight at h
  refine v_aload_n C 0 dX8_weight_0 rfl ?_
  refine v_getL1 C wd_318 dX8_weight_1 (fun e1 => ?_)
  refine v_iload_n C 1 dX8_weight_4 rfl ?_
  refine v_cVZ C kX3 e1 (s_X3_hasPerson G l0 e1 h) mv_X3_hasPerson wd_503 ⟨by decide, by decide⟩ rfl rfl (Nat.le_of_ble_eq_true rfl) dX8_weight_5 (fun p2 T1 h => ?_)
  obtain ⟨e2, e3⟩ := h
  refine v_ifz_eq (tgt := 26) C dX8_weight_8 (by decide) (fun e4 => ?_) (fun e4 => ?_)
  · have h := e2 e4
    refine v_ldc (n := -1000000001) C dX8_weight_26 wd_493 (by decide) ?_
    exact v_iret C E dX8_weight_28 h
  · have h := e3 e4
    refine v_aload_n C 0 dX8_weight_11 rfl ?_
    refine v_getC C kX8 3 rfl rfl wd_320 rfl dX8_weight_12 ?_
    refine v_aload_n C 0 dX8_weight_15 rfl ?_
    refine v_getL1 C wd_318 dX8_weight_16 (fun e5 => ?_)
    refine v_iload_n C 1 dX8_weight_19 rfl ?_
    refine v_cVI C kX2 rfl (s_X2_load G l0 rfl e5 h) mv_X2_load wd_528 ⟨by decide, by decide⟩ rfl rfl (Nat.le_of_ble_eq_true rfl) dX8_weight_20 (fun r4 T3 h => ?_)
    refine v_goto (tgt := 28) C dX8_weight_23 (by decide) ?_
    exact v_iret C E dX8_weight_28 h
def wp_X8_bridge (v1 : Int) (T : TH) (Q : Int → TH → Prop) : Prop :=
  wp_X3_hasBridge ((T 0 1 0).toNat) v1 T (fun p2 T1 => (p2 = false → (Q (-1000000001) T1)) ∧ (p2 = true → (0 ≤ v1 ∧ v1 < 4 ∧ Q (T1 (T1 0 1 0).toNat 15 v1) T1)))
set_option maxRecDepth 100000 in
theorem s_X8_bridge (G : GT) (l0 : Launch) {v1 : Int} {T : TH} {Q : Int → TH → Prop} (h : wp_X8_bridge v1 T Q) : MT G l0 yX8_bridge cX8_bridge 2 (some .int) 1 21 [.ref (gad G 0), .int (zI v1)] T (QI G Q) := by
  refine mt_of G l0 (by decide) (Nat.le_of_ble_eq_true rfl) (fun X C E => ?_)
  show V G X T 0 [(0, .ref (gad G 0)), (1, .int (zI v1))] []
  unfold wp_X8_bridge at h
  refine v_aload_n C 0 dX8_bridge_0 rfl ?_
  refine v_getL1 C wd_318 dX8_bridge_1 (fun e1 => ?_)
  refine v_iload_n C 1 dX8_bridge_4 rfl ?_
  refine v_cVZ C kX3 e1 (s_X3_hasBridge G l0 e1 h) mv_X3_hasBridge wd_540 ⟨by decide, by decide⟩ rfl rfl (Nat.le_of_ble_eq_true rfl) dX8_bridge_5 (fun p2 T1 h => ?_)
  obtain ⟨e2, e3⟩ := h
  refine v_ifz_eq (tgt := 23) C dX8_bridge_8 (by decide) (fun e4 => ?_) (fun e4 => ?_)
  · have h := e2 e4
    refine v_ldc (n := -1000000001) C dX8_bridge_23 wd_493 (by decide) ?_
    exact v_iret C E dX8_bridge_25 h
  · have h := e3 e4
    refine v_aload_n C 0 dX8_bridge_11 rfl ?_
    refine v_getL1 C wd_318 dX8_bridge_12 (fun e5 => ?_)
    refine v_getA C kX3 15 e5 rfl wd_172 rfl dX8_bridge_15 ?_
    refine v_iload_n C 1 dX8_bridge_18 rfl ?_
    obtain ⟨e6, e7, h⟩ := h
    refine v_iald C (ar_of e5 ar_3_15) dX8_bridge_19 e6 e7 ?_
    refine v_goto (tgt := 25) C dX8_bridge_20 (by decide) ?_
    exact v_iret C E dX8_bridge_25 h
def wp_X8_tell (v1 : Int) (v2 : Int) (T : TH) (Q : Int → TH → Prop) : Prop :=
  wp_X3_hasPerson ((T 0 1 0).toNat) v1 T (fun p2 T1 => (p2 = false → (Q (-1000000001) T1)) ∧ (p2 = true → (wp_X3_hasFact ((T1 0 1 0).toNat) v2 T1 (fun p4 T3 => (p4 = true → (wp_X2_knows 4 v1 v2 T3 (fun p6 T5 => (p6 = false → (wp_X2_learn 4 v1 v2 T5 (fun T7 => wp_X2_headsOf 4 ((T7 0 1 0).toNat) v2 T7 (fun r9 T8 => Q r9 T8)))) ∧ (p6 = true → (Q (-1000000003) T5))))) ∧ (p4 = false → (Q (-1000000001) T3))))))
set_option maxRecDepth 100000 in
theorem s_X8_tell (G : GT) (l0 : Launch) {v1 : Int} {v2 : Int} {T : TH} {Q : Int → TH → Prop} (h : wp_X8_tell v1 v2 T Q) : MT G l0 yX8_tell cX8_tell 3 (some .int) 2 42 [.ref (gad G 0), .int (zI v1), .int (zI v2)] T (QI G Q) := by
  refine mt_of G l0 (by decide) (Nat.le_of_ble_eq_true rfl) (fun X C E => ?_)
  show V G X T 0 [(0, .ref (gad G 0)), (1, .int (zI v1)), (2, .int (zI v2))] []
  unfold wp_X8_tell at h
  refine v_aload_n C 0 dX8_tell_0 rfl ?_
  refine v_getL1 C wd_318 dX8_tell_1 (fun e1 => ?_)
  refine v_iload_n C 1 dX8_tell_4 rfl ?_
  refine v_cVZ C kX3 e1 (s_X3_hasPerson G l0 e1 h) mv_X3_hasPerson wd_503 ⟨by decide, by decide⟩ rfl rfl (Nat.le_of_ble_eq_true rfl) dX8_tell_5 (fun p2 T1 h => ?_)
  obtain ⟨e2, e3⟩ := h
  refine v_ifz_eq (tgt := 22) C dX8_tell_8 (by decide) (fun e4 => ?_) (fun e4 => ?_)
  · have h := e2 e4
    refine v_ldc (n := -1000000001) C dX8_tell_22 wd_493 (by decide) ?_
    exact v_iret C E dX8_tell_24 h
  · have h := e3 e4
    refine v_aload_n C 0 dX8_tell_11 rfl ?_
    refine v_getL1 C wd_318 dX8_tell_12 (fun e5 => ?_)
    refine v_iload_n C 2 dX8_tell_15 rfl ?_
    refine v_cVZ C kX3 e5 (s_X3_hasFact G l0 e5 h) mv_X3_hasFact wd_489 ⟨by decide, by decide⟩ rfl rfl (Nat.le_of_ble_eq_true rfl) dX8_tell_16 (fun p4 T3 h => ?_)
    obtain ⟨e6, e7⟩ := h
    refine v_ifz_ne (tgt := 25) C dX8_tell_19 (by decide) (fun e8 => ?_) (fun e8 => ?_)
    · have h := e6 e8
      refine v_aload_n C 0 dX8_tell_25 rfl ?_
      refine v_getC C kX8 3 rfl rfl wd_320 rfl dX8_tell_26 ?_
      refine v_iload_n C 1 dX8_tell_29 rfl ?_
      refine v_iload_n C 2 dX8_tell_30 rfl ?_
      refine v_cVZ C kX2 rfl (s_X2_knows G l0 rfl h) mv_X2_knows wd_516 ⟨by decide, by decide⟩ rfl rfl (Nat.le_of_ble_eq_true rfl) dX8_tell_31 (fun p6 T5 h => ?_)
      obtain ⟨e9, e10⟩ := h
      refine v_ifz_eq (tgt := 40) C dX8_tell_34 (by decide) (fun e11 => ?_) (fun e11 => ?_)
      · have h := e9 e11
        refine v_aload_n C 0 dX8_tell_40 rfl ?_
        refine v_getC C kX8 3 rfl rfl wd_320 rfl dX8_tell_41 ?_
        refine v_iload_n C 1 dX8_tell_44 rfl ?_
        refine v_iload_n C 2 dX8_tell_45 rfl ?_
        refine v_cVN C kX2 rfl (s_X2_learn G l0 rfl h) mv_X2_learn wd_549 ⟨by decide, by decide⟩ rfl rfl (Nat.le_of_ble_eq_true rfl) dX8_tell_46 (fun T7 h => ?_)
        refine v_aload_n C 0 dX8_tell_49 rfl ?_
        refine v_getC C kX8 3 rfl rfl wd_320 rfl dX8_tell_50 ?_
        refine v_aload_n C 0 dX8_tell_53 rfl ?_
        refine v_getL1 C wd_318 dX8_tell_54 (fun e12 => ?_)
        refine v_iload_n C 2 dX8_tell_57 rfl ?_
        refine v_cVI C kX2 rfl (s_X2_headsOf G l0 rfl e12 h) mv_X2_headsOf wd_498 ⟨by decide, by decide⟩ rfl rfl (Nat.le_of_ble_eq_true rfl) dX8_tell_58 (fun r9 T8 h => ?_)
        exact v_iret C E dX8_tell_61 h
      · have h := e10 e11
        refine v_ldc (n := -1000000003) C dX8_tell_37 wd_548 (by decide) ?_
        exact v_iret C E dX8_tell_39 h
    · have h := e7 e8
      refine v_ldc (n := -1000000001) C dX8_tell_22 wd_493 (by decide) ?_
      exact v_iret C E dX8_tell_24 h
def wp_X8_forget (v1 : Int) (v2 : Int) (T : TH) (Q : Int → TH → Prop) : Prop :=
  wp_X3_hasPerson ((T 0 1 0).toNat) v1 T (fun p2 T1 => (p2 = false → (Q (-1000000001) T1)) ∧ (p2 = true → (wp_X3_hasFact ((T1 0 1 0).toNat) v2 T1 (fun p4 T3 => (p4 = true → (wp_X2_knows 4 v1 v2 T3 (fun p6 T5 => (p6 = true → (wp_X2_lose 4 v1 v2 T5 (fun T7 => wp_X2_headsOf 4 ((T7 0 1 0).toNat) v2 T7 (fun r9 T8 => Q r9 T8)))) ∧ (p6 = false → (Q (-1000000003) T5))))) ∧ (p4 = false → (Q (-1000000001) T3))))))
set_option maxRecDepth 100000 in
theorem s_X8_forget (G : GT) (l0 : Launch) {v1 : Int} {v2 : Int} {T : TH} {Q : Int → TH → Prop} (h : wp_X8_forget v1 v2 T Q) : MT G l0 yX8_forget cX8_forget 3 (some .int) 2 42 [.ref (gad G 0), .int (zI v1), .int (zI v2)] T (QI G Q) := by
  refine mt_of G l0 (by decide) (Nat.le_of_ble_eq_true rfl) (fun X C E => ?_)
  show V G X T 0 [(0, .ref (gad G 0)), (1, .int (zI v1)), (2, .int (zI v2))] []
  unfold wp_X8_forget at h
  refine v_aload_n C 0 dX8_forget_0 rfl ?_
  refine v_getL1 C wd_318 dX8_forget_1 (fun e1 => ?_)
  refine v_iload_n C 1 dX8_forget_4 rfl ?_
  refine v_cVZ C kX3 e1 (s_X3_hasPerson G l0 e1 h) mv_X3_hasPerson wd_503 ⟨by decide, by decide⟩ rfl rfl (Nat.le_of_ble_eq_true rfl) dX8_forget_5 (fun p2 T1 h => ?_)
  obtain ⟨e2, e3⟩ := h
  refine v_ifz_eq (tgt := 22) C dX8_forget_8 (by decide) (fun e4 => ?_) (fun e4 => ?_)
  · have h := e2 e4
    refine v_ldc (n := -1000000001) C dX8_forget_22 wd_493 (by decide) ?_
    exact v_iret C E dX8_forget_24 h
  · have h := e3 e4
    refine v_aload_n C 0 dX8_forget_11 rfl ?_
    refine v_getL1 C wd_318 dX8_forget_12 (fun e5 => ?_)
    refine v_iload_n C 2 dX8_forget_15 rfl ?_
    refine v_cVZ C kX3 e5 (s_X3_hasFact G l0 e5 h) mv_X3_hasFact wd_489 ⟨by decide, by decide⟩ rfl rfl (Nat.le_of_ble_eq_true rfl) dX8_forget_16 (fun p4 T3 h => ?_)
    obtain ⟨e6, e7⟩ := h
    refine v_ifz_ne (tgt := 25) C dX8_forget_19 (by decide) (fun e8 => ?_) (fun e8 => ?_)
    · have h := e6 e8
      refine v_aload_n C 0 dX8_forget_25 rfl ?_
      refine v_getC C kX8 3 rfl rfl wd_320 rfl dX8_forget_26 ?_
      refine v_iload_n C 1 dX8_forget_29 rfl ?_
      refine v_iload_n C 2 dX8_forget_30 rfl ?_
      refine v_cVZ C kX2 rfl (s_X2_knows G l0 rfl h) mv_X2_knows wd_516 ⟨by decide, by decide⟩ rfl rfl (Nat.le_of_ble_eq_true rfl) dX8_forget_31 (fun p6 T5 h => ?_)
      obtain ⟨e9, e10⟩ := h
      refine v_ifz_ne (tgt := 40) C dX8_forget_34 (by decide) (fun e11 => ?_) (fun e11 => ?_)
      · have h := e9 e11
        refine v_aload_n C 0 dX8_forget_40 rfl ?_
        refine v_getC C kX8 3 rfl rfl wd_320 rfl dX8_forget_41 ?_
        refine v_iload_n C 1 dX8_forget_44 rfl ?_
        refine v_iload_n C 2 dX8_forget_45 rfl ?_
        refine v_cVN C kX2 rfl (s_X2_lose G l0 rfl h) mv_X2_lose wd_557 ⟨by decide, by decide⟩ rfl rfl (Nat.le_of_ble_eq_true rfl) dX8_forget_46 (fun T7 h => ?_)
        refine v_aload_n C 0 dX8_forget_49 rfl ?_
        refine v_getC C kX8 3 rfl rfl wd_320 rfl dX8_forget_50 ?_
        refine v_aload_n C 0 dX8_forget_53 rfl ?_
        refine v_getL1 C wd_318 dX8_forget_54 (fun e12 => ?_)
        refine v_iload_n C 2 dX8_forget_57 rfl ?_
        refine v_cVI C kX2 rfl (s_X2_headsOf G l0 rfl e12 h) mv_X2_headsOf wd_498 ⟨by decide, by decide⟩ rfl rfl (Nat.le_of_ble_eq_true rfl) dX8_forget_58 (fun r9 T8 h => ?_)
        exact v_iret C E dX8_forget_61 h
      · have h := e10 e11
        refine v_ldc (n := -1000000003) C dX8_forget_37 wd_548 (by decide) ?_
        exact v_iret C E dX8_forget_39 h
    · have h := e7 e8
      refine v_ldc (n := -1000000001) C dX8_forget_22 wd_493 (by decide) ?_
      exact v_iret C E dX8_forget_24 h
def wp_X8_refusalOfHours (v1 : Int) (T : TH) (Q : Int → TH → Prop) : Prop :=
  zR v1 ∧ (v1 < 1 → (Q (-1000000002) T)) ∧ (¬ (v1 < 1) → (zR v1 ∧ (v1 ≤ 99 → (zR (T (T 0 1 0).toNat 0 0) ∧ (¬ (T (T 0 1 0).toNat 0 0) = 0 → (zR (T 4 0 0) ∧ ((T 4 0 0) ≤ 90000 → (Q 0 T)) ∧ (¬ ((T 4 0 0) ≤ 90000) → (Q (-1000000004) T)))) ∧ ((T (T 0 1 0).toNat 0 0) = 0 → (Q (-1000000003) T)))) ∧ (¬ (v1 ≤ 99) → (Q (-1000000002) T))))
set_option maxRecDepth 100000 in
theorem s_X8_refusalOfHours (G : GT) (l0 : Launch) {v1 : Int} {T : TH} {Q : Int → TH → Prop} (h : wp_X8_refusalOfHours v1 T Q) : MT G l0 yX8_refusalOfHours cX8_refusalOfHours 2 (some .int) 0 0 [.ref (gad G 0), .int (zI v1)] T (QI G Q) := by
  refine mt_of G l0 (by decide) (Nat.le_of_ble_eq_true rfl) (fun X C E => ?_)
  show V G X T 0 [(0, .ref (gad G 0)), (1, .int (zI v1))] []
  unfold wp_X8_refusalOfHours at h
  refine v_iload_n C 1 dX8_refusalOfHours_0 rfl ?_
  refine v_iconst C dX8_refusalOfHours_1 ?_
  obtain ⟨e1, e2, e3⟩ := h
  refine v_icmp_lt (tgt := 11) C dX8_refusalOfHours_2 (by decide) e1 ⟨by decide, by decide⟩ (fun e4 => ?_) (fun e4 => ?_)
  · have h := e2 e4
    refine v_ldc (n := -1000000002) C dX8_refusalOfHours_11 wd_358 (by decide) ?_
    exact v_iret C E dX8_refusalOfHours_13 h
  · have h := e3 e4
    refine v_iload_n C 1 dX8_refusalOfHours_5 rfl ?_
    refine v_bipush C dX8_refusalOfHours_6 (by decide) ?_
    obtain ⟨e5, e6, e7⟩ := h
    refine v_icmp_le (tgt := 14) C dX8_refusalOfHours_8 (by decide) e5 ⟨by decide, by decide⟩ (fun e8 => ?_) (fun e8 => ?_)
    · have h := e6 e8
      refine v_aload_n C 0 dX8_refusalOfHours_14 rfl ?_
      refine v_getL1 C wd_318 dX8_refusalOfHours_15 (fun e9 => ?_)
      refine v_getI C kX3 0 e9 rfl wd_120 rfl dX8_refusalOfHours_18 ?_
      obtain ⟨e10, e11, e12⟩ := h
      refine v_if_ne (tgt := 27) C dX8_refusalOfHours_21 (by decide) e10 (fun e13 => ?_) (fun e13 => ?_)
      · have h := e11 e13
        refine v_aload_n C 0 dX8_refusalOfHours_27 rfl ?_
        refine v_getC C kX8 3 rfl rfl wd_320 rfl dX8_refusalOfHours_28 ?_
        refine v_getI C kX2 0 rfl rfl wd_214 rfl dX8_refusalOfHours_31 ?_
        refine v_ldc (n := 90000) C dX8_refusalOfHours_34 wd_569 (by decide) ?_
        obtain ⟨e14, e15, e16⟩ := h
        refine v_icmp_le (tgt := 44) C dX8_refusalOfHours_36 (by decide) e14 ⟨by decide, by decide⟩ (fun e17 => ?_) (fun e17 => ?_)
        · have h := e15 e17
          refine v_iconst C dX8_refusalOfHours_44 ?_
          exact v_iret C E dX8_refusalOfHours_45 h
        · have h := e16 e17
          refine v_ldc (n := -1000000004) C dX8_refusalOfHours_39 wd_570 (by decide) ?_
          refine v_goto (tgt := 45) C dX8_refusalOfHours_41 (by decide) ?_
          exact v_iret C E dX8_refusalOfHours_45 h
      · have h := e12 e13
        refine v_ldc (n := -1000000003) C dX8_refusalOfHours_24 wd_548 (by decide) ?_
        exact v_iret C E dX8_refusalOfHours_26 h
    · have h := e7 e8
      refine v_ldc (n := -1000000002) C dX8_refusalOfHours_11 wd_358 (by decide) ?_
      exact v_iret C E dX8_refusalOfHours_13 h
def h_X8_hour_14 (v1 : Int) (Q : Int → TH → Prop) : Nat → Int → TH → Prop
  | 0, _, _ => False
  | n + 1, v3, T => zR v3 ∧ zR v1 ∧ (v1 ≤ v3 → (Q (T 4 0 0) T)) ∧ (¬ (v1 ≤ v3) → (wp_X2_passHour 4 ((T 0 1 0).toNat) T (fun T1 => (h_X8_hour_14 v1 Q n) (v3 + 1) T1)))
def wp_X8_hour (v1 : Int) (T : TH) (Q : Int → TH → Prop) : Prop :=
  wp_X8_refusalOfHours v1 T (fun r2 T1 => zR r2 ∧ (r2 = 0 → ((∃ m9 : Nat, h_X8_hour_14 v1 Q m9 0 T1))) ∧ (¬ (r2 = 0) → (Q r2 T1)))
set_option maxRecDepth 100000 in
theorem t_X8_hour_14 {G : GT} {l0 : Launch} {X : CX} (C : CT G l0 X cX8_hour 4 RX8 (rM 4 90)) {Q : Int → TH → Prop} (E : EN G X (some .int) (QI G Q)) {v1 : Int} : ∀ (n : Nat) (v3 : Int) (T : TH), h_X8_hour_14 v1 Q n v3 T → V G X T 14 [(0, .ref (gad G 0)), (1, .int (zI v1)), (3, .int (zI v3))] [] := by
  intro n
  induction n with
  | zero =>
    intro v3 T h
    exact h.elim
  | succ n ih =>
    intro v3 T h
    rw [h_X8_hour_14] at h
    refine v_iload_n C 2 dX8_hour_14 rfl ?_
    refine v_iload_n C 1 dX8_hour_15 rfl ?_
    obtain ⟨e1, e2, e3, e4⟩ := h
    refine v_icmp_ge (tgt := 36) C dX8_hour_16 (by decide) e1 e2 (fun e5 => ?_) (fun e5 => ?_)
    · have h := e3 e5
      refine v_aload_n C 0 dX8_hour_36 rfl ?_
      refine v_getC C kX8 3 rfl rfl wd_320 rfl dX8_hour_37 ?_
      refine v_getI C kX2 0 rfl rfl wd_214 rfl dX8_hour_40 ?_
      exact v_iret C E dX8_hour_43 h
    · have h := e4 e5
      refine v_aload_n C 0 dX8_hour_19 rfl ?_
      refine v_getC C kX8 3 rfl rfl wd_320 rfl dX8_hour_20 ?_
      refine v_aload_n C 0 dX8_hour_23 rfl ?_
      refine v_getL1 C wd_318 dX8_hour_24 (fun e6 => ?_)
      refine v_cVN C kX2 rfl (s_X2_passHour G l0 rfl e6 h) mv_X2_passHour wd_571 ⟨by decide, by decide⟩ rfl rfl (Nat.le_of_ble_eq_true rfl) dX8_hour_27 (fun T1 h => ?_)
      refine v_iinc C 2 dX8_hour_30 rfl (by decide) ?_
      refine v_goto (tgt := 14) C dX8_hour_33 (by decide) ?_
      exact v_sub [1, 2, 0] rfl (ih _ _ h)
set_option maxRecDepth 100000 in
theorem s_X8_hour (G : GT) (l0 : Launch) {v1 : Int} {T : TH} {Q : Int → TH → Prop} (h : wp_X8_hour v1 T Q) : MT G l0 yX8_hour cX8_hour 4 (some .int) 4 90 [.ref (gad G 0), .int (zI v1)] T (QI G Q) := by
  refine mt_of G l0 (by decide) (Nat.le_of_ble_eq_true rfl) (fun X C E => ?_)
  show V G X T 0 [(0, .ref (gad G 0)), (1, .int (zI v1))] []
  unfold wp_X8_hour at h
  refine v_aload_n C 0 dX8_hour_0 rfl ?_
  refine v_iload_n C 1 dX8_hour_1 rfl ?_
  refine v_cVI C kX8 rfl (s_X8_refusalOfHours G l0 h) mv_X8_refusalOfHours wd_565 ⟨by decide, by decide⟩ rfl rfl (Nat.le_of_ble_eq_true rfl) dX8_hour_2 (fun r2 T1 h => ?_)
  refine v_istore_n C dX8_hour_5 rfl (by decide) ?_
  refine v_iload_n C 0 dX8_hour_6 rfl ?_
  obtain ⟨e1, e2, e3⟩ := h
  refine v_if_eq (tgt := 12) C dX8_hour_7 (by decide) e1 (fun e4 => ?_) (fun e4 => ?_)
  · have h := e2 e4
    refine v_iconst C dX8_hour_12 ?_
    refine v_istore_n C dX8_hour_13 rfl (by decide) ?_
    obtain ⟨n9, h⟩ := h
    exact v_sub [2, 3, 0] rfl (t_X8_hour_14 C E n9 _ _ h)
  · have h := e3 e4
    refine v_iload_n C 0 dX8_hour_10 rfl ?_
    exact v_iret C E dX8_hour_11 h
def h_X8_drift_14 (v1 : Int) (Q : Int → TH → Prop) : Nat → Int → TH → Prop
  | 0, _, _ => False
  | n + 1, v3, T => zR v3 ∧ zR v1 ∧ (v1 ≤ v3 → (Q (T 4 0 0) T)) ∧ (¬ (v1 ≤ v3) → (wp_X2_changeByDraws 4 ((T 0 1 0).toNat) T (fun T1 => wp_X2_passHour 4 ((T1 0 1 0).toNat) T1 (fun T2 => (h_X8_drift_14 v1 Q n) (v3 + 1) T2))))
def wp_X8_drift (v1 : Int) (T : TH) (Q : Int → TH → Prop) : Prop :=
  wp_X8_refusalOfHours v1 T (fun r2 T1 => zR r2 ∧ (r2 = 0 → ((∃ m9 : Nat, h_X8_drift_14 v1 Q m9 0 T1))) ∧ (¬ (r2 = 0) → (Q r2 T1)))
set_option maxRecDepth 100000 in
theorem t_X8_drift_14 {G : GT} {l0 : Launch} {X : CX} (C : CT G l0 X cX8_drift 4 RX8 (rM 4 90)) {Q : Int → TH → Prop} (E : EN G X (some .int) (QI G Q)) {v1 : Int} : ∀ (n : Nat) (v3 : Int) (T : TH), h_X8_drift_14 v1 Q n v3 T → V G X T 14 [(0, .ref (gad G 0)), (1, .int (zI v1)), (3, .int (zI v3))] [] := by
  intro n
  induction n with
  | zero =>
    intro v3 T h
    exact h.elim
  | succ n ih =>
    intro v3 T h
    rw [h_X8_drift_14] at h
    refine v_iload_n C 2 dX8_drift_14 rfl ?_
    refine v_iload_n C 1 dX8_drift_15 rfl ?_
    obtain ⟨e1, e2, e3, e4⟩ := h
    refine v_icmp_ge (tgt := 47) C dX8_drift_16 (by decide) e1 e2 (fun e5 => ?_) (fun e5 => ?_)
    · have h := e3 e5
      refine v_aload_n C 0 dX8_drift_47 rfl ?_
      refine v_getC C kX8 3 rfl rfl wd_320 rfl dX8_drift_48 ?_
      refine v_getI C kX2 0 rfl rfl wd_214 rfl dX8_drift_51 ?_
      exact v_iret C E dX8_drift_54 h
    · have h := e4 e5
      refine v_aload_n C 0 dX8_drift_19 rfl ?_
      refine v_getC C kX8 3 rfl rfl wd_320 rfl dX8_drift_20 ?_
      refine v_aload_n C 0 dX8_drift_23 rfl ?_
      refine v_getL1 C wd_318 dX8_drift_24 (fun e6 => ?_)
      refine v_cVN C kX2 rfl (s_X2_changeByDraws G l0 rfl e6 h) mv_X2_changeByDraws wd_596 ⟨by decide, by decide⟩ rfl rfl (Nat.le_of_ble_eq_true rfl) dX8_drift_27 (fun T1 h => ?_)
      refine v_aload_n C 0 dX8_drift_30 rfl ?_
      refine v_getC C kX8 3 rfl rfl wd_320 rfl dX8_drift_31 ?_
      refine v_aload_n C 0 dX8_drift_34 rfl ?_
      refine v_getL1 C wd_318 dX8_drift_35 (fun e7 => ?_)
      refine v_cVN C kX2 rfl (s_X2_passHour G l0 rfl e7 h) mv_X2_passHour wd_571 ⟨by decide, by decide⟩ rfl rfl (Nat.le_of_ble_eq_true rfl) dX8_drift_38 (fun T2 h => ?_)
      refine v_iinc C 2 dX8_drift_41 rfl (by decide) ?_
      refine v_goto (tgt := 14) C dX8_drift_44 (by decide) ?_
      exact v_sub [1, 2, 0] rfl (ih _ _ h)
set_option maxRecDepth 100000 in
theorem s_X8_drift (G : GT) (l0 : Launch) {v1 : Int} {T : TH} {Q : Int → TH → Prop} (h : wp_X8_drift v1 T Q) : MT G l0 yX8_drift cX8_drift 4 (some .int) 4 90 [.ref (gad G 0), .int (zI v1)] T (QI G Q) := by
  refine mt_of G l0 (by decide) (Nat.le_of_ble_eq_true rfl) (fun X C E => ?_)
  show V G X T 0 [(0, .ref (gad G 0)), (1, .int (zI v1))] []
  unfold wp_X8_drift at h
  refine v_aload_n C 0 dX8_drift_0 rfl ?_
  refine v_iload_n C 1 dX8_drift_1 rfl ?_
  refine v_cVI C kX8 rfl (s_X8_refusalOfHours G l0 h) mv_X8_refusalOfHours wd_565 ⟨by decide, by decide⟩ rfl rfl (Nat.le_of_ble_eq_true rfl) dX8_drift_2 (fun r2 T1 h => ?_)
  refine v_istore_n C dX8_drift_5 rfl (by decide) ?_
  refine v_iload_n C 0 dX8_drift_6 rfl ?_
  obtain ⟨e1, e2, e3⟩ := h
  refine v_if_eq (tgt := 12) C dX8_drift_7 (by decide) e1 (fun e4 => ?_) (fun e4 => ?_)
  · have h := e2 e4
    refine v_iconst C dX8_drift_12 ?_
    refine v_istore_n C dX8_drift_13 rfl (by decide) ?_
    obtain ⟨n9, h⟩ := h
    exact v_sub [2, 3, 0] rfl (t_X8_drift_14 C E n9 _ _ h)
  · have h := e3 e4
    refine v_iload_n C 0 dX8_drift_10 rfl ?_
    exact v_iret C E dX8_drift_11 h
def h_X8_heavy_40 (v1 : Int) (v2 : Int) (Q : Int → TH → Prop) : Nat → Int → TH → Prop
  | 0, _, _ => False
  | n + 1, v3, T => zR v3 ∧ zR v2 ∧ (v2 ≤ v3 → (wp_X2_load 5 ((T 0 1 0).toNat) v1 T (fun r2 T1 => Q r2 T1))) ∧ (¬ (v2 ≤ v3) → (wp_X2_passHour 5 ((T 0 1 0).toNat) T (fun T3 => (h_X8_heavy_40 v1 v2 Q n) (v3 + 1) T3)))
def wp_X8_heavy (v1 : Int) (v2 : Int) (T : TH) (Q : Int → TH → Prop) : Prop :=
  wp_X3_hasPerson ((T 0 1 0).toNat) v1 T (fun p2 T1 => (p2 = true → (zR v2 ∧ (v2 < 0 → (Q (-1000000002) T1)) ∧ (¬ (v2 < 0) → (zR v2 ∧ (v2 ≤ 99 → (wp_X2_copyFrom 5 4 T1 (fun T3 => (∃ m9 : Nat, h_X8_heavy_40 v1 v2 Q m9 0 T3)))) ∧ (¬ (v2 ≤ 99) → (Q (-1000000002) T1)))))) ∧ (p2 = false → (Q (-1000000001) T1)))
set_option maxRecDepth 100000 in
theorem t_X8_heavy_40 {G : GT} {l0 : Launch} {X : CX} (C : CT G l0 X cX8_heavy 4 RX8 (rM 4 90)) {Q : Int → TH → Prop} (E : EN G X (some .int) (QI G Q)) {v1 : Int} {v2 : Int} : ∀ (n : Nat) (v3 : Int) (T : TH), h_X8_heavy_40 v1 v2 Q n v3 T → V G X T 40 [(0, .ref (gad G 0)), (1, .int (zI v1)), (2, .int (zI v2)), (3, .int (zI v3))] [] := by
  intro n
  induction n with
  | zero =>
    intro v3 T h
    exact h.elim
  | succ n ih =>
    intro v3 T h
    rw [h_X8_heavy_40] at h
    refine v_iload_n C 3 dX8_heavy_40 rfl ?_
    refine v_iload_n C 2 dX8_heavy_41 rfl ?_
    obtain ⟨e1, e2, e3, e4⟩ := h
    refine v_icmp_ge (tgt := 62) C dX8_heavy_42 (by decide) e1 e2 (fun e5 => ?_) (fun e5 => ?_)
    · have h := e3 e5
      refine v_aload_n C 0 dX8_heavy_62 rfl ?_
      refine v_getC C kX8 4 rfl rfl wd_321 rfl dX8_heavy_63 ?_
      refine v_aload_n C 0 dX8_heavy_66 rfl ?_
      refine v_getL1 C wd_318 dX8_heavy_67 (fun e6 => ?_)
      refine v_iload_n C 1 dX8_heavy_70 rfl ?_
      refine v_cVI C kX2 rfl (s_X2_load G l0 rfl e6 h) mv_X2_load wd_528 ⟨by decide, by decide⟩ rfl rfl (Nat.le_of_ble_eq_true rfl) dX8_heavy_71 (fun r2 T1 h => ?_)
      exact v_iret C E dX8_heavy_74 h
    · have h := e4 e5
      refine v_aload_n C 0 dX8_heavy_45 rfl ?_
      refine v_getC C kX8 4 rfl rfl wd_321 rfl dX8_heavy_46 ?_
      refine v_aload_n C 0 dX8_heavy_49 rfl ?_
      refine v_getL1 C wd_318 dX8_heavy_50 (fun e7 => ?_)
      refine v_cVN C kX2 rfl (s_X2_passHour G l0 rfl e7 h) mv_X2_passHour wd_571 ⟨by decide, by decide⟩ rfl rfl (Nat.le_of_ble_eq_true rfl) dX8_heavy_53 (fun T3 h => ?_)
      refine v_iinc C 3 dX8_heavy_56 rfl (by decide) ?_
      refine v_goto (tgt := 40) C dX8_heavy_59 (by decide) ?_
      exact v_sub [1, 2, 3, 0] rfl (ih _ _ h)
set_option maxRecDepth 100000 in
theorem s_X8_heavy (G : GT) (l0 : Launch) {v1 : Int} {v2 : Int} {T : TH} {Q : Int → TH → Prop} (h : wp_X8_heavy v1 v2 T Q) : MT G l0 yX8_heavy cX8_heavy 4 (some .int) 4 90 [.ref (gad G 0), .int (zI v1), .int (zI v2)] T (QI G Q) := by
  refine mt_of G l0 (by decide) (Nat.le_of_ble_eq_true rfl) (fun X C E => ?_)
  show V G X T 0 [(0, .ref (gad G 0)), (1, .int (zI v1)), (2, .int (zI v2))] []
  unfold wp_X8_heavy at h
  refine v_aload_n C 0 dX8_heavy_0 rfl ?_
  refine v_getL1 C wd_318 dX8_heavy_1 (fun e1 => ?_)
  refine v_iload_n C 1 dX8_heavy_4 rfl ?_
  refine v_cVZ C kX3 e1 (s_X3_hasPerson G l0 e1 h) mv_X3_hasPerson wd_503 ⟨by decide, by decide⟩ rfl rfl (Nat.le_of_ble_eq_true rfl) dX8_heavy_5 (fun p2 T1 h => ?_)
  obtain ⟨e2, e3⟩ := h
  refine v_ifz_ne (tgt := 14) C dX8_heavy_8 (by decide) (fun e4 => ?_) (fun e4 => ?_)
  · have h := e2 e4
    refine v_iload_n C 2 dX8_heavy_14 rfl ?_
    obtain ⟨e5, e6, e7⟩ := h
    refine v_if_lt (tgt := 24) C dX8_heavy_15 (by decide) e5 (fun e8 => ?_) (fun e8 => ?_)
    · have h := e6 e8
      refine v_ldc (n := -1000000002) C dX8_heavy_24 wd_358 (by decide) ?_
      exact v_iret C E dX8_heavy_26 h
    · have h := e7 e8
      refine v_iload_n C 2 dX8_heavy_18 rfl ?_
      refine v_bipush C dX8_heavy_19 (by decide) ?_
      obtain ⟨e9, e10, e11⟩ := h
      refine v_icmp_le (tgt := 27) C dX8_heavy_21 (by decide) e9 ⟨by decide, by decide⟩ (fun e12 => ?_) (fun e12 => ?_)
      · have h := e10 e12
        refine v_aload_n C 0 dX8_heavy_27 rfl ?_
        refine v_getC C kX8 4 rfl rfl wd_321 rfl dX8_heavy_28 ?_
        refine v_aload_n C 0 dX8_heavy_31 rfl ?_
        refine v_getC C kX8 3 rfl rfl wd_320 rfl dX8_heavy_32 ?_
        refine v_cVN C kX2 rfl (s_X2_copyFrom G l0 rfl rfl h) mv_X2_copyFrom wd_612 ⟨by decide, by decide⟩ rfl rfl (Nat.le_of_ble_eq_true rfl) dX8_heavy_35 (fun T3 h => ?_)
        refine v_iconst C dX8_heavy_38 ?_
        refine v_istore_n C dX8_heavy_39 rfl (by decide) ?_
        obtain ⟨n9, h⟩ := h
        exact v_sub [1, 2, 3, 0] rfl (t_X8_heavy_40 C E n9 _ _ h)
      · have h := e11 e12
        refine v_ldc (n := -1000000002) C dX8_heavy_24 wd_358 (by decide) ?_
        exact v_iret C E dX8_heavy_26 h
  · have h := e3 e4
    refine v_ldc (n := -1000000001) C dX8_heavy_11 wd_493 (by decide) ?_
    exact v_iret C E dX8_heavy_13 h
def h_X8_when_38 (v1 : Int) (v2 : Int) (Q : Int → TH → Prop) : Nat → Int → TH → Prop
  | 0, _, _ => False
  | n + 1, v3, T => zR v3 ∧ (99 < v3 → (Q (-1) T)) ∧ (¬ (99 < v3) → (wp_X2_load 5 ((T 0 1 0).toNat) v1 T (fun r2 T1 => 0 ≤ v2 ∧ v2 < 4 ∧ zR r2 ∧ zR (T1 (T1 0 1 0).toNat 15 v2) ∧ ((T1 (T1 0 1 0).toNat 15 v2) < r2 → (wp_X2_passHour 5 ((T1 0 1 0).toNat) T1 (fun T3 => (h_X8_when_38 v1 v2 Q n) (v3 + 1) T3))) ∧ (¬ ((T1 (T1 0 1 0).toNat 15 v2) < r2) → (Q v3 T1)))))
def wp_X8_when (v1 : Int) (v2 : Int) (T : TH) (Q : Int → TH → Prop) : Prop :=
  wp_X3_hasPerson ((T 0 1 0).toNat) v1 T (fun p2 T1 => (p2 = false → (Q (-1000000001) T1)) ∧ (p2 = true → (wp_X3_hasBridge ((T1 0 1 0).toNat) v2 T1 (fun p4 T3 => (p4 = true → (wp_X2_copyFrom 5 4 T3 (fun T5 => (∃ m9 : Nat, h_X8_when_38 v1 v2 Q m9 0 T5)))) ∧ (p4 = false → (Q (-1000000001) T3))))))
set_option maxRecDepth 100000 in
theorem t_X8_when_38 {G : GT} {l0 : Launch} {X : CX} (C : CT G l0 X cX8_when 4 RX8 (rM 4 90)) {Q : Int → TH → Prop} (E : EN G X (some .int) (QI G Q)) {v1 : Int} {v2 : Int} : ∀ (n : Nat) (v3 : Int) (T : TH), h_X8_when_38 v1 v2 Q n v3 T → V G X T 38 [(0, .ref (gad G 0)), (1, .int (zI v1)), (2, .int (zI v2)), (3, .int (zI v3))] [] := by
  intro n
  induction n with
  | zero =>
    intro v3 T h
    exact h.elim
  | succ n ih =>
    intro v3 T h
    rw [h_X8_when_38] at h
    refine v_iload_n C 3 dX8_when_38 rfl ?_
    refine v_bipush C dX8_when_39 (by decide) ?_
    obtain ⟨e1, e2, e3⟩ := h
    refine v_icmp_gt (tgt := 87) C dX8_when_41 (by decide) e1 ⟨by decide, by decide⟩ (fun e4 => ?_) (fun e4 => ?_)
    · have h := e2 e4
      refine v_iconst C dX8_when_87 ?_
      exact v_iret C E dX8_when_88 h
    · have h := e3 e4
      refine v_aload_n C 0 dX8_when_44 rfl ?_
      refine v_getC C kX8 4 rfl rfl wd_321 rfl dX8_when_45 ?_
      refine v_aload_n C 0 dX8_when_48 rfl ?_
      refine v_getL1 C wd_318 dX8_when_49 (fun e5 => ?_)
      refine v_iload_n C 1 dX8_when_52 rfl ?_
      refine v_cVI C kX2 rfl (s_X2_load G l0 rfl e5 h) mv_X2_load wd_528 ⟨by decide, by decide⟩ rfl rfl (Nat.le_of_ble_eq_true rfl) dX8_when_53 (fun r2 T1 h => ?_)
      refine v_aload_n C 0 dX8_when_56 rfl ?_
      refine v_getL1 C wd_318 dX8_when_57 (fun e6 => ?_)
      refine v_getA C kX3 15 e6 rfl wd_172 rfl dX8_when_60 ?_
      refine v_iload_n C 2 dX8_when_63 rfl ?_
      obtain ⟨e7, e8, h⟩ := h
      refine v_iald C (ar_of e6 ar_3_15) dX8_when_64 e7 e8 ?_
      obtain ⟨e9, e10, e11, e12⟩ := h
      refine v_icmp_gt (tgt := 70) C dX8_when_65 (by decide) e9 e10 (fun e13 => ?_) (fun e13 => ?_)
      · have h := e11 e13
        refine v_aload_n C 0 dX8_when_70 rfl ?_
        refine v_getC C kX8 4 rfl rfl wd_321 rfl dX8_when_71 ?_
        refine v_aload_n C 0 dX8_when_74 rfl ?_
        refine v_getL1 C wd_318 dX8_when_75 (fun e14 => ?_)
        refine v_cVN C kX2 rfl (s_X2_passHour G l0 rfl e14 h) mv_X2_passHour wd_571 ⟨by decide, by decide⟩ rfl rfl (Nat.le_of_ble_eq_true rfl) dX8_when_78 (fun T3 h => ?_)
        refine v_iinc C 3 dX8_when_81 rfl (by decide) ?_
        refine v_goto (tgt := 38) C dX8_when_84 (by decide) ?_
        exact v_sub [1, 2, 3, 0] rfl (ih _ _ h)
      · have h := e12 e13
        refine v_iload_n C 3 dX8_when_68 rfl ?_
        exact v_iret C E dX8_when_69 h
set_option maxRecDepth 100000 in
theorem s_X8_when (G : GT) (l0 : Launch) {v1 : Int} {v2 : Int} {T : TH} {Q : Int → TH → Prop} (h : wp_X8_when v1 v2 T Q) : MT G l0 yX8_when cX8_when 4 (some .int) 4 90 [.ref (gad G 0), .int (zI v1), .int (zI v2)] T (QI G Q) := by
  refine mt_of G l0 (by decide) (Nat.le_of_ble_eq_true rfl) (fun X C E => ?_)
  show V G X T 0 [(0, .ref (gad G 0)), (1, .int (zI v1)), (2, .int (zI v2))] []
  unfold wp_X8_when at h
  refine v_aload_n C 0 dX8_when_0 rfl ?_
  refine v_getL1 C wd_318 dX8_when_1 (fun e1 => ?_)
  refine v_iload_n C 1 dX8_when_4 rfl ?_
  refine v_cVZ C kX3 e1 (s_X3_hasPerson G l0 e1 h) mv_X3_hasPerson wd_503 ⟨by decide, by decide⟩ rfl rfl (Nat.le_of_ble_eq_true rfl) dX8_when_5 (fun p2 T1 h => ?_)
  obtain ⟨e2, e3⟩ := h
  refine v_ifz_eq (tgt := 22) C dX8_when_8 (by decide) (fun e4 => ?_) (fun e4 => ?_)
  · have h := e2 e4
    refine v_ldc (n := -1000000001) C dX8_when_22 wd_493 (by decide) ?_
    exact v_iret C E dX8_when_24 h
  · have h := e3 e4
    refine v_aload_n C 0 dX8_when_11 rfl ?_
    refine v_getL1 C wd_318 dX8_when_12 (fun e5 => ?_)
    refine v_iload_n C 2 dX8_when_15 rfl ?_
    refine v_cVZ C kX3 e5 (s_X3_hasBridge G l0 e5 h) mv_X3_hasBridge wd_540 ⟨by decide, by decide⟩ rfl rfl (Nat.le_of_ble_eq_true rfl) dX8_when_16 (fun p4 T3 h => ?_)
    obtain ⟨e6, e7⟩ := h
    refine v_ifz_ne (tgt := 25) C dX8_when_19 (by decide) (fun e8 => ?_) (fun e8 => ?_)
    · have h := e6 e8
      refine v_aload_n C 0 dX8_when_25 rfl ?_
      refine v_getC C kX8 4 rfl rfl wd_321 rfl dX8_when_26 ?_
      refine v_aload_n C 0 dX8_when_29 rfl ?_
      refine v_getC C kX8 3 rfl rfl wd_320 rfl dX8_when_30 ?_
      refine v_cVN C kX2 rfl (s_X2_copyFrom G l0 rfl rfl h) mv_X2_copyFrom wd_612 ⟨by decide, by decide⟩ rfl rfl (Nat.le_of_ble_eq_true rfl) dX8_when_33 (fun T5 h => ?_)
      refine v_iconst C dX8_when_36 ?_
      refine v_istore_n C dX8_when_37 rfl (by decide) ?_
      obtain ⟨n9, h⟩ := h
      exact v_sub [1, 2, 3, 0] rfl (t_X8_when_38 C E n9 _ _ h)
    · have h := e7 e8
      refine v_ldc (n := -1000000001) C dX8_when_22 wd_493 (by decide) ?_
      exact v_iret C E dX8_when_24 h
def h_X8_timesToForget_2 (v0 : Int) (v1 : Int) (v2 : Int) (Q : Int → TH → Prop) : Nat → Int → TH → Prop
  | 0, _, _ => False
  | n + 1, v3, T => zR v3 ∧ zR v2 ∧ (v2 ≤ v3 → (Q v3 T)) ∧ (¬ (v2 ≤ v3) → (zR (v0 - (v3 * v1)) ∧ ((v0 - (v3 * v1)) ≤ 0 → (Q v3 T)) ∧ (¬ ((v0 - (v3 * v1)) ≤ 0) → ((h_X8_timesToForget_2 v0 v1 v2 Q n) (v3 + 1) T))))
def wp_X8_timesToForget (v0 : Int) (v1 : Int) (v2 : Int) (T : TH) (Q : Int → TH → Prop) : Prop :=
  (∃ m9 : Nat, h_X8_timesToForget_2 v0 v1 v2 Q m9 0 T)
set_option maxRecDepth 100000 in
theorem t_X8_timesToForget_2 {G : GT} {l0 : Launch} {X : CX} (C : CT G l0 X cX8_timesToForget 4 RX8 (rM 0 0)) {Q : Int → TH → Prop} (E : EN G X (some .int) (QI G Q)) {v0 : Int} {v1 : Int} {v2 : Int} : ∀ (n : Nat) (v3 : Int) (T : TH), h_X8_timesToForget_2 v0 v1 v2 Q n v3 T → V G X T 2 [(0, .int (zI v0)), (1, .int (zI v1)), (2, .int (zI v2)), (3, .int (zI v3))] [] := by
  intro n
  induction n with
  | zero =>
    intro v3 T h
    exact h.elim
  | succ n ih =>
    intro v3 T h
    rw [h_X8_timesToForget_2] at h
    refine v_iload_n C 3 dX8_timesToForget_2 rfl ?_
    refine v_iload_n C 2 dX8_timesToForget_3 rfl ?_
    obtain ⟨e1, e2, e3, e4⟩ := h
    refine v_icmp_ge (tgt := 21) C dX8_timesToForget_4 (by decide) e1 e2 (fun e5 => ?_) (fun e5 => ?_)
    · have h := e3 e5
      refine v_iload_n C 3 dX8_timesToForget_21 rfl ?_
      exact v_iret C E dX8_timesToForget_22 h
    · have h := e4 e5
      refine v_iload_n C 0 dX8_timesToForget_7 rfl ?_
      refine v_iload_n C 3 dX8_timesToForget_8 rfl ?_
      refine v_iload_n C 1 dX8_timesToForget_9 rfl ?_
      refine v_imul C dX8_timesToForget_10 ?_
      refine v_isub C dX8_timesToForget_11 ?_
      obtain ⟨e6, e7, e8⟩ := h
      refine v_if_le (tgt := 21) C dX8_timesToForget_12 (by decide) e6 (fun e9 => ?_) (fun e9 => ?_)
      · have h := e7 e9
        refine v_iload_n C 3 dX8_timesToForget_21 rfl ?_
        exact v_iret C E dX8_timesToForget_22 h
      · have h := e8 e9
        refine v_iinc C 3 dX8_timesToForget_15 rfl (by decide) ?_
        refine v_goto (tgt := 2) C dX8_timesToForget_18 (by decide) ?_
        exact v_sub [1, 2, 3, 0] rfl (ih _ _ h)
set_option maxRecDepth 100000 in
theorem s_X8_timesToForget (G : GT) (l0 : Launch) {v0 : Int} {v1 : Int} {v2 : Int} {T : TH} {Q : Int → TH → Prop} (h : wp_X8_timesToForget v0 v1 v2 T Q) : MT G l0 yX8_timesToForget cX8_timesToForget 4 (some .int) 0 0 [.int (zI v0), .int (zI v1), .int (zI v2)] T (QI G Q) := by
  refine mt_of G l0 (by decide) (Nat.le_of_ble_eq_true rfl) (fun X C E => ?_)
  show V G X T 0 [(0, .int (zI v0)), (1, .int (zI v1)), (2, .int (zI v2))] []
  unfold wp_X8_timesToForget at h
  refine v_iconst C dX8_timesToForget_0 ?_
  refine v_istore_n C dX8_timesToForget_1 rfl (by decide) ?_
  obtain ⟨n9, h⟩ := h
  exact v_sub [1, 2, 3, 0] rfl (t_X8_timesToForget_2 C E n9 _ _ h)
def b_X8_least_190 (v1 : Int) (v2 : Int) (v3 : Int) (Q : Int → TH → Prop) (K70 : Int → Int → Int → Int → TH → Prop) (K78 : Int → Int → Int → Int → Int → TH → Prop) (v4 : Int) (v5 : Int) (v6 : Int) (v7 : Int) (v8 : Int) (T : TH) : Prop :=
  K78 v4 v5 v6 v7 (v8 + 1) T
def b_X8_least_187 (v1 : Int) (v2 : Int) (v3 : Int) (Q : Int → TH → Prop) (K70 : Int → Int → Int → Int → TH → Prop) (K78 : Int → Int → Int → Int → Int → TH → Prop) (v4 : Int) (v5 : Int) (v7 : Int) (v8 : Int) (s0 : Int) (s1 : Int) (T : TH) : Prop :=
  ∀ w1 : Int, w1 = (s0 + s1) → b_X8_least_190 v1 v2 v3 Q K70 K78 v4 v5 w1 v7 v8 T
def h_X8_least_78 (v1 : Int) (v2 : Int) (v3 : Int) (Q : Int → TH → Prop) (K70 : Int → Int → Int → Int → TH → Prop) : Nat → Int → Int → Int → Int → Int → TH → Prop
  | 0, _, _, _, _, _, _ => False
  | n + 1, v4, v5, v6, v7, v8, T => zR v8 ∧ zR (T (T 0 1 0).toNat 1 0) ∧ ((T (T 0 1 0).toNat 1 0) ≤ v8 → (K70 v4 v5 v6 (v7 + (-1)) T)) ∧ (¬ ((T (T 0 1 0).toNat 1 0) ≤ v8) → (0 ≤ v8 ∧ v8 < 8 ∧ zR (T (T 0 1 0).toNat 9 v8) ∧ zR v7 ∧ (¬ (T (T 0 1 0).toNat 9 v8) = v7 → (b_X8_least_190 v1 v2 v3 Q K70 (h_X8_least_78 v1 v2 v3 Q K70 n) v4 v5 v6 v7 v8 T)) ∧ ((T (T 0 1 0).toNat 9 v8) = v7 → (wp_X3_isLie ((T 0 1 0).toNat) v8 T (fun p2 T1 => (p2 = true → (b_X8_least_190 v1 v2 v3 Q K70 (h_X8_least_78 v1 v2 v3 Q K70 n) v4 v5 v6 v7 v8 T1)) ∧ (p2 = false → (0 ≤ v8 ∧ v8 < 8 ∧ zR (zand (zshr v1 (T1 (T1 0 1 0).toNat 8 v8)) 1) ∧ ((zand (zshr v1 (T1 (T1 0 1 0).toNat 8 v8)) 1) = 0 → (b_X8_least_190 v1 v2 v3 Q K70 (h_X8_least_78 v1 v2 v3 Q K70 n) v4 v5 v6 v7 v8 T1)) ∧ (¬ ((zand (zshr v1 (T1 (T1 0 1 0).toNat 8 v8)) 1) = 0) → (wp_X2_headsOf 4 ((T1 0 1 0).toNat) v8 T1 (fun r4 T3 => wp_X8_timesToForget v4 v7 r4 T3 (fun r6 T5 => ∀ w7 : Int, w7 = (v4 - (r6 * v7)) → ∀ w8 : Int, w8 = (v5 + r6) → zR v8 ∧ zR v3 ∧ (¬ v8 = v3 → (b_X8_least_187 v1 v2 v3 Q K70 (h_X8_least_78 v1 v2 v3 Q K70 n) w7 w8 v7 v8 v6 0 T5)) ∧ (v8 = v3 → (b_X8_least_187 v1 v2 v3 Q K70 (h_X8_least_78 v1 v2 v3 Q K70 n) w7 w8 v7 v8 v6 r6 T5)))))))))))))
def h_X8_least_70 (v1 : Int) (v2 : Int) (v3 : Int) (Q : Int → TH → Prop) : Nat → Int → Int → Int → Int → TH → Prop
  | 0, _, _, _, _, _ => False
  | n + 1, v4, v5, v6, v7, T => zR v7 ∧ (v7 ≤ 0 → (zR v4 ∧ (v4 ≤ 0 → (zR v3 ∧ (¬ v3 = (-1) → (Q v6 T)) ∧ (v3 = (-1) → (Q v5 T)))) ∧ (¬ (v4 ≤ 0) → (Q (-1) T)))) ∧ (¬ (v7 ≤ 0) → ((∃ m9 : Nat, h_X8_least_78 v1 v2 v3 Q (h_X8_least_70 v1 v2 v3 Q n) m9 v4 v5 v6 v7 0 T)))
def wp_X8_least (v1 : Int) (v2 : Int) (v3 : Int) (T : TH) (Q : Int → TH → Prop) : Prop :=
  wp_X3_hasPeople ((T 0 1 0).toNat) v1 T (fun p2 T1 => (p2 = false → (Q (-1000000001) T1)) ∧ (p2 = true → (wp_X3_hasBridge ((T1 0 1 0).toNat) v2 T1 (fun p4 T3 => (p4 = false → (Q (-1000000001) T3)) ∧ (p4 = true → (wp_X3_hasFactOrNone ((T3 0 1 0).toNat) v3 T3 (fun p6 T5 => (p6 = true → (wp_X2_loadOfAll 4 ((T5 0 1 0).toNat) v1 T5 (fun r8 T7 => 0 ≤ v2 ∧ v2 < 4 ∧ ∀ w9 : Int, w9 = (r8 - (T7 (T7 0 1 0).toNat 15 v2)) → (∃ m9 : Nat, h_X8_least_70 v1 v2 v3 Q m9 w9 0 0 9 T7)))) ∧ (p6 = false → (Q (-1000000001) T5)))))))))
set_option maxRecDepth 100000 in
theorem t_X8_least_190 {G : GT} {l0 : Launch} {X : CX} (C : CT G l0 X cX8_least 10 RX8 (rM 5 113)) {Q : Int → TH → Prop} (E : EN G X (some .int) (QI G Q)) {v1 : Int} {v2 : Int} {v3 : Int} {K70 : Int → Int → Int → Int → TH → Prop} {K78 : Int → Int → Int → Int → Int → TH → Prop} (k70 : ∀ (v4 : Int) (v5 : Int) (v6 : Int) (v7 : Int) (T : TH), K70 v4 v5 v6 v7 T → V G X T 70 [(0, .ref (gad G 0)), (1, .int (zI v1)), (2, .int (zI v2)), (3, .int (zI v3)), (4, .int (zI v4)), (5, .int (zI v5)), (6, .int (zI v6)), (7, .int (zI v7))] []) (k78 : ∀ (v4 : Int) (v5 : Int) (v6 : Int) (v7 : Int) (v8 : Int) (T : TH), K78 v4 v5 v6 v7 v8 T → V G X T 78 [(0, .ref (gad G 0)), (1, .int (zI v1)), (2, .int (zI v2)), (3, .int (zI v3)), (4, .int (zI v4)), (5, .int (zI v5)), (6, .int (zI v6)), (7, .int (zI v7)), (8, .int (zI v8))] []) {v4 : Int} {v5 : Int} {v6 : Int} {v7 : Int} {v8 : Int} {T : TH} (h : b_X8_least_190 v1 v2 v3 Q K70 K78 v4 v5 v6 v7 v8 T) : V G X T 190 [(0, .ref (gad G 0)), (1, .int (zI v1)), (2, .int (zI v2)), (3, .int (zI v3)), (4, .int (zI v4)), (5, .int (zI v5)), (6, .int (zI v6)), (7, .int (zI v7)), (8, .int (zI v8))] [] := by
  unfold b_X8_least_190 at h
  refine v_iinc C 8 dX8_least_190 rfl (by decide) ?_
  refine v_goto (tgt := 78) C dX8_least_193 (by decide) ?_
  exact v_sub [1, 2, 3, 4, 5, 6, 7, 8, 0] rfl (k78 _ _ _ _ _ _ h)
set_option maxRecDepth 100000 in
theorem t_X8_least_187 {G : GT} {l0 : Launch} {X : CX} (C : CT G l0 X cX8_least 10 RX8 (rM 5 113)) {Q : Int → TH → Prop} (E : EN G X (some .int) (QI G Q)) {v1 : Int} {v2 : Int} {v3 : Int} {K70 : Int → Int → Int → Int → TH → Prop} {K78 : Int → Int → Int → Int → Int → TH → Prop} (k70 : ∀ (v4 : Int) (v5 : Int) (v6 : Int) (v7 : Int) (T : TH), K70 v4 v5 v6 v7 T → V G X T 70 [(0, .ref (gad G 0)), (1, .int (zI v1)), (2, .int (zI v2)), (3, .int (zI v3)), (4, .int (zI v4)), (5, .int (zI v5)), (6, .int (zI v6)), (7, .int (zI v7))] []) (k78 : ∀ (v4 : Int) (v5 : Int) (v6 : Int) (v7 : Int) (v8 : Int) (T : TH), K78 v4 v5 v6 v7 v8 T → V G X T 78 [(0, .ref (gad G 0)), (1, .int (zI v1)), (2, .int (zI v2)), (3, .int (zI v3)), (4, .int (zI v4)), (5, .int (zI v5)), (6, .int (zI v6)), (7, .int (zI v7)), (8, .int (zI v8))] []) {v4 : Int} {v5 : Int} {v7 : Int} {v8 : Int} {s0 : Int} {s1 : Int} {T : TH} (h : b_X8_least_187 v1 v2 v3 Q K70 K78 v4 v5 v7 v8 s0 s1 T) : V G X T 187 [(0, .ref (gad G 0)), (1, .int (zI v1)), (2, .int (zI v2)), (3, .int (zI v3)), (4, .int (zI v4)), (5, .int (zI v5)), (7, .int (zI v7)), (8, .int (zI v8))] [.int (zI s1), .int (zI s0)] := by
  unfold b_X8_least_187 at h
  refine v_iadd C dX8_least_187 ?_
  refine v_istore C dX8_least_188 (by decide) ?_
  have h := h _ rfl
  exact v_sub [1, 2, 3, 4, 5, 6, 0, 7, 8] rfl (t_X8_least_190 C E k70 k78 h)
set_option maxRecDepth 100000 in
theorem t_X8_least_78 {G : GT} {l0 : Launch} {X : CX} (C : CT G l0 X cX8_least 10 RX8 (rM 5 113)) {Q : Int → TH → Prop} (E : EN G X (some .int) (QI G Q)) {v1 : Int} {v2 : Int} {v3 : Int} {K70 : Int → Int → Int → Int → TH → Prop} (k70 : ∀ (v4 : Int) (v5 : Int) (v6 : Int) (v7 : Int) (T : TH), K70 v4 v5 v6 v7 T → V G X T 70 [(0, .ref (gad G 0)), (1, .int (zI v1)), (2, .int (zI v2)), (3, .int (zI v3)), (4, .int (zI v4)), (5, .int (zI v5)), (6, .int (zI v6)), (7, .int (zI v7))] []) : ∀ (n : Nat) (v4 : Int) (v5 : Int) (v6 : Int) (v7 : Int) (v8 : Int) (T : TH), h_X8_least_78 v1 v2 v3 Q K70 n v4 v5 v6 v7 v8 T → V G X T 78 [(0, .ref (gad G 0)), (1, .int (zI v1)), (2, .int (zI v2)), (3, .int (zI v3)), (4, .int (zI v4)), (5, .int (zI v5)), (6, .int (zI v6)), (7, .int (zI v7)), (8, .int (zI v8))] [] := by
  intro n
  induction n with
  | zero =>
    intro v4 v5 v6 v7 v8 T h
    exact h.elim
  | succ n ih =>
    intro v4 v5 v6 v7 v8 T h
    rw [h_X8_least_78] at h
    refine v_iload C 8 dX8_least_78 rfl ?_
    refine v_aload_n C 0 dX8_least_80 rfl ?_
    refine v_getL1 C wd_318 dX8_least_81 (fun e1 => ?_)
    refine v_getI C kX3 1 e1 rfl wd_128 rfl dX8_least_84 ?_
    obtain ⟨e2, e3, e4, e5⟩ := h
    refine v_icmp_ge (tgt := 196) C dX8_least_87 (by decide) e2 e3 (fun e6 => ?_) (fun e6 => ?_)
    · have h := e4 e6
      refine v_iinc C 7 dX8_least_196 rfl (by decide) ?_
      refine v_goto (tgt := 70) C dX8_least_199 (by decide) ?_
      exact v_sub [1, 2, 3, 4, 5, 6, 7, 0] rfl (k70 _ _ _ _ _ h)
    · have h := e5 e6
      refine v_aload_n C 0 dX8_least_90 rfl ?_
      refine v_getL1 C wd_318 dX8_least_91 (fun e7 => ?_)
      refine v_getA C kX3 9 e7 rfl wd_156 rfl dX8_least_94 ?_
      refine v_iload C 8 dX8_least_97 rfl ?_
      obtain ⟨e8, e9, h⟩ := h
      refine v_iald C (ar_of e7 ar_3_9) dX8_least_99 e8 e9 ?_
      refine v_iload C 7 dX8_least_100 rfl ?_
      obtain ⟨e10, e11, e12, e13⟩ := h
      refine v_icmp_ne (tgt := 190) C dX8_least_102 (by decide) e10 e11 (fun e14 => ?_) (fun e14 => ?_)
      · have h := e12 e14
        exact v_sub [0, 1, 2, 3, 4, 5, 6, 7, 8] rfl (t_X8_least_190 C E k70 ih h)
      · have h := e13 e14
        refine v_aload_n C 0 dX8_least_105 rfl ?_
        refine v_getL1 C wd_318 dX8_least_106 (fun e15 => ?_)
        refine v_iload C 8 dX8_least_109 rfl ?_
        refine v_cVZ C kX3 e15 (s_X3_isLie G l0 e15 h) mv_X3_isLie wd_494 ⟨by decide, by decide⟩ rfl rfl (Nat.le_of_ble_eq_true rfl) dX8_least_111 (fun p2 T1 h => ?_)
        obtain ⟨e16, e17⟩ := h
        refine v_ifz_ne (tgt := 190) C dX8_least_114 (by decide) (fun e18 => ?_) (fun e18 => ?_)
        · have h := e16 e18
          exact v_sub [0, 1, 2, 3, 4, 5, 6, 7, 8] rfl (t_X8_least_190 C E k70 ih h)
        · have h := e17 e18
          refine v_iload_n C 1 dX8_least_117 rfl ?_
          refine v_aload_n C 0 dX8_least_118 rfl ?_
          refine v_getL1 C wd_318 dX8_least_119 (fun e19 => ?_)
          refine v_getA C kX3 8 e19 rfl wd_151 rfl dX8_least_122 ?_
          refine v_iload C 8 dX8_least_125 rfl ?_
          obtain ⟨e20, e21, h⟩ := h
          refine v_iald C (ar_of e19 ar_3_8) dX8_least_127 e20 e21 ?_
          refine v_ishr C dX8_least_128 ?_
          refine v_iconst C dX8_least_129 ?_
          refine v_iand C dX8_least_130 ?_
          obtain ⟨e22, e23, e24⟩ := h
          refine v_if_eq (tgt := 190) C dX8_least_131 (by decide) e22 (fun e25 => ?_) (fun e25 => ?_)
          · have h := e23 e25
            exact v_sub [0, 1, 2, 3, 4, 5, 6, 7, 8] rfl (t_X8_least_190 C E k70 ih h)
          · have h := e24 e25
            refine v_iload C 4 dX8_least_134 rfl ?_
            refine v_iload C 7 dX8_least_136 rfl ?_
            refine v_aload_n C 0 dX8_least_138 rfl ?_
            refine v_getC C kX8 3 rfl rfl wd_320 rfl dX8_least_139 ?_
            refine v_aload_n C 0 dX8_least_142 rfl ?_
            refine v_getL1 C wd_318 dX8_least_143 (fun e26 => ?_)
            refine v_iload C 8 dX8_least_146 rfl ?_
            refine v_cVI C kX2 rfl (s_X2_headsOf G l0 rfl e26 h) mv_X2_headsOf wd_498 ⟨by decide, by decide⟩ rfl rfl (Nat.le_of_ble_eq_true rfl) dX8_least_148 (fun r4 T3 h => ?_)
            refine v_cSI C (s_X8_timesToForget G l0 h) mv_X8_timesToForget wd_642 ⟨by decide, by decide⟩ rfl rfl (Nat.le_of_ble_eq_true rfl) dX8_least_151 (fun r6 T5 h => ?_)
            refine v_istore C dX8_least_154 (by decide) ?_
            refine v_iload C 5 dX8_least_156 rfl ?_
            refine v_iload C 0 dX8_least_158 rfl ?_
            refine v_iload C 8 dX8_least_160 rfl ?_
            refine v_imul C dX8_least_162 ?_
            refine v_isub C dX8_least_163 ?_
            refine v_istore C dX8_least_164 (by decide) ?_
            have h := h _ rfl
            refine v_iload C 6 dX8_least_166 rfl ?_
            refine v_iload C 1 dX8_least_168 rfl ?_
            refine v_iadd C dX8_least_170 ?_
            refine v_istore C dX8_least_171 (by decide) ?_
            have h := h _ rfl
            refine v_iload C 7 dX8_least_173 rfl ?_
            refine v_iload C 9 dX8_least_175 rfl ?_
            refine v_iload_n C 6 dX8_least_177 rfl ?_
            obtain ⟨e27, e28, e29, e30⟩ := h
            refine v_icmp_ne (tgt := 186) C dX8_least_178 (by decide) e27 e28 (fun e31 => ?_) (fun e31 => ?_)
            · have h := e29 e31
              refine v_iconst C dX8_least_186 ?_
              exact v_sub [3, 4, 5, 6, 1, 0, 8, 9] rfl (t_X8_least_187 C E k70 ih h)
            · have h := e30 e31
              refine v_iload C 2 dX8_least_181 rfl ?_
              refine v_goto (tgt := 187) C dX8_least_183 (by decide) ?_
              exact v_sub [3, 4, 5, 6, 1, 0, 8, 9] rfl (t_X8_least_187 C E k70 ih h)
set_option maxRecDepth 100000 in
theorem t_X8_least_70 {G : GT} {l0 : Launch} {X : CX} (C : CT G l0 X cX8_least 10 RX8 (rM 5 113)) {Q : Int → TH → Prop} (E : EN G X (some .int) (QI G Q)) {v1 : Int} {v2 : Int} {v3 : Int} : ∀ (n : Nat) (v4 : Int) (v5 : Int) (v6 : Int) (v7 : Int) (T : TH), h_X8_least_70 v1 v2 v3 Q n v4 v5 v6 v7 T → V G X T 70 [(0, .ref (gad G 0)), (1, .int (zI v1)), (2, .int (zI v2)), (3, .int (zI v3)), (4, .int (zI v4)), (5, .int (zI v5)), (6, .int (zI v6)), (7, .int (zI v7))] [] := by
  intro n
  induction n with
  | zero =>
    intro v4 v5 v6 v7 T h
    exact h.elim
  | succ n ih =>
    intro v4 v5 v6 v7 T h
    rw [h_X8_least_70] at h
    refine v_iload C 7 dX8_least_70 rfl ?_
    obtain ⟨e1, e2, e3⟩ := h
    refine v_if_le (tgt := 202) C dX8_least_72 (by decide) e1 (fun e4 => ?_) (fun e4 => ?_)
    · have h := e2 e4
      refine v_iload C 4 dX8_least_202 rfl ?_
      obtain ⟨e5, e6, e7⟩ := h
      refine v_if_le (tgt := 209) C dX8_least_204 (by decide) e5 (fun e8 => ?_) (fun e8 => ?_)
      · have h := e6 e8
        refine v_iload_n C 3 dX8_least_209 rfl ?_
        refine v_iconst C dX8_least_210 ?_
        obtain ⟨e9, e10, e11⟩ := h
        refine v_icmp_ne (tgt := 219) C dX8_least_211 (by decide) e9 ⟨by decide, by decide⟩ (fun e12 => ?_) (fun e12 => ?_)
        · have h := e10 e12
          refine v_iload C 6 dX8_least_219 rfl ?_
          exact v_iret C E dX8_least_221 h
        · have h := e11 e12
          refine v_iload C 5 dX8_least_214 rfl ?_
          refine v_goto (tgt := 221) C dX8_least_216 (by decide) ?_
          exact v_iret C E dX8_least_221 h
      · have h := e7 e8
        refine v_iconst C dX8_least_207 ?_
        exact v_iret C E dX8_least_208 h
    · have h := e3 e4
      refine v_iconst C dX8_least_75 ?_
      refine v_istore C dX8_least_76 (by decide) ?_
      obtain ⟨n9, h⟩ := h
      exact v_sub [1, 2, 3, 4, 5, 6, 7, 8, 0] rfl (t_X8_least_78 C E ih n9 _ _ _ _ _ _ h)
set_option maxRecDepth 100000 in
theorem s_X8_least (G : GT) (l0 : Launch) {v1 : Int} {v2 : Int} {v3 : Int} {T : TH} {Q : Int → TH → Prop} (h : wp_X8_least v1 v2 v3 T Q) : MT G l0 yX8_least cX8_least 10 (some .int) 5 113 [.ref (gad G 0), .int (zI v1), .int (zI v2), .int (zI v3)] T (QI G Q) := by
  refine mt_of G l0 (by decide) (Nat.le_of_ble_eq_true rfl) (fun X C E => ?_)
  show V G X T 0 [(0, .ref (gad G 0)), (1, .int (zI v1)), (2, .int (zI v2)), (3, .int (zI v3))] []
  unfold wp_X8_least at h
  refine v_aload_n C 0 dX8_least_0 rfl ?_
  refine v_getL1 C wd_318 dX8_least_1 (fun e1 => ?_)
  refine v_iload_n C 1 dX8_least_4 rfl ?_
  refine v_cVZ C kX3 e1 (s_X3_hasPeople G l0 e1 h) mv_X3_hasPeople wd_627 ⟨by decide, by decide⟩ rfl rfl (Nat.le_of_ble_eq_true rfl) dX8_least_5 (fun p2 T1 h => ?_)
  obtain ⟨e2, e3⟩ := h
  refine v_ifz_eq (tgt := 33) C dX8_least_8 (by decide) (fun e4 => ?_) (fun e4 => ?_)
  · have h := e2 e4
    refine v_ldc (n := -1000000001) C dX8_least_33 wd_493 (by decide) ?_
    exact v_iret C E dX8_least_35 h
  · have h := e3 e4
    refine v_aload_n C 0 dX8_least_11 rfl ?_
    refine v_getL1 C wd_318 dX8_least_12 (fun e5 => ?_)
    refine v_iload_n C 2 dX8_least_15 rfl ?_
    refine v_cVZ C kX3 e5 (s_X3_hasBridge G l0 e5 h) mv_X3_hasBridge wd_540 ⟨by decide, by decide⟩ rfl rfl (Nat.le_of_ble_eq_true rfl) dX8_least_16 (fun p4 T3 h => ?_)
    obtain ⟨e6, e7⟩ := h
    refine v_ifz_eq (tgt := 33) C dX8_least_19 (by decide) (fun e8 => ?_) (fun e8 => ?_)
    · have h := e6 e8
      refine v_ldc (n := -1000000001) C dX8_least_33 wd_493 (by decide) ?_
      exact v_iret C E dX8_least_35 h
    · have h := e7 e8
      refine v_aload_n C 0 dX8_least_22 rfl ?_
      refine v_getL1 C wd_318 dX8_least_23 (fun e9 => ?_)
      refine v_iload_n C 3 dX8_least_26 rfl ?_
      refine v_cVZ C kX3 e9 (s_X3_hasFactOrNone G l0 e9 h) mv_X3_hasFactOrNone wd_632 ⟨by decide, by decide⟩ rfl rfl (Nat.le_of_ble_eq_true rfl) dX8_least_27 (fun p6 T5 h => ?_)
      obtain ⟨e10, e11⟩ := h
      refine v_ifz_ne (tgt := 36) C dX8_least_30 (by decide) (fun e12 => ?_) (fun e12 => ?_)
      · have h := e10 e12
        refine v_aload_n C 0 dX8_least_36 rfl ?_
        refine v_getC C kX8 3 rfl rfl wd_320 rfl dX8_least_37 ?_
        refine v_aload_n C 0 dX8_least_40 rfl ?_
        refine v_getL1 C wd_318 dX8_least_41 (fun e13 => ?_)
        refine v_iload_n C 1 dX8_least_44 rfl ?_
        refine v_cVI C kX2 rfl (s_X2_loadOfAll G l0 rfl e13 h) mv_X2_loadOfAll wd_637 ⟨by decide, by decide⟩ rfl rfl (Nat.le_of_ble_eq_true rfl) dX8_least_45 (fun r8 T7 h => ?_)
        refine v_aload_n C 0 dX8_least_48 rfl ?_
        refine v_getL1 C wd_318 dX8_least_49 (fun e14 => ?_)
        refine v_getA C kX3 15 e14 rfl wd_172 rfl dX8_least_52 ?_
        refine v_iload_n C 2 dX8_least_55 rfl ?_
        obtain ⟨e15, e16, h⟩ := h
        refine v_iald C (ar_of e14 ar_3_15) dX8_least_56 e15 e16 ?_
        refine v_isub C dX8_least_57 ?_
        refine v_istore C dX8_least_58 (by decide) ?_
        have h := h _ rfl
        refine v_iconst C dX8_least_60 ?_
        refine v_istore C dX8_least_61 (by decide) ?_
        refine v_iconst C dX8_least_63 ?_
        refine v_istore C dX8_least_64 (by decide) ?_
        refine v_bipush C dX8_least_66 (by decide) ?_
        refine v_istore C dX8_least_68 (by decide) ?_
        obtain ⟨n9, h⟩ := h
        exact v_sub [4, 5, 6, 7, 3, 2, 1, 0] rfl (t_X8_least_70 C E n9 _ _ _ _ _ h)
      · have h := e11 e12
        refine v_ldc (n := -1000000001) C dX8_least_33 wd_493 (by decide) ?_
        exact v_iret C E dX8_least_35 h
def wp_X8_trips (v1 : Int) (v2 : Int) (v3 : Int) (T : TH) (Q : Int → TH → Prop) : Prop :=
  wp_X3_hasPeople ((T 0 1 0).toNat) v1 T (fun p2 T1 => (p2 = false → (Q (-1000000001) T1)) ∧ (p2 = true → (wp_X3_hasBridge ((T1 0 1 0).toNat) v2 T1 (fun p4 T3 => (p4 = true → (0 ≤ v2 ∧ v2 < 4 ∧ wp_X1_plan ((T3 0 1 0).toNat) 4 v1 (T3 (T3 0 1 0).toNat 15 v2) T3 (fun T5 => zR v3 ∧ (¬ v3 = (-1) → (wp_X1_group v1 v3 T5 (fun r7 T6 => Q r7 T6))) ∧ (v3 = (-1) → (0 ≤ v1 ∧ v1 < 128 ∧ Q (T5 9 0 v1) T5))))) ∧ (p4 = false → (Q (-1000000001) T3))))))
set_option maxRecDepth 100000 in
theorem s_X8_trips (G : GT) (l0 : Launch) {v1 : Int} {v2 : Int} {v3 : Int} {T : TH} {Q : Int → TH → Prop} (h : wp_X8_trips v1 v2 v3 T Q) : MT G l0 yX8_trips cX8_trips 4 (some .int) 5 114 [.ref (gad G 0), .int (zI v1), .int (zI v2), .int (zI v3)] T (QI G Q) := by
  refine mt_of G l0 (by decide) (Nat.le_of_ble_eq_true rfl) (fun X C E => ?_)
  show V G X T 0 [(0, .ref (gad G 0)), (1, .int (zI v1)), (2, .int (zI v2)), (3, .int (zI v3))] []
  unfold wp_X8_trips at h
  refine v_aload_n C 0 dX8_trips_0 rfl ?_
  refine v_getL1 C wd_318 dX8_trips_1 (fun e1 => ?_)
  refine v_iload_n C 1 dX8_trips_4 rfl ?_
  refine v_cVZ C kX3 e1 (s_X3_hasPeople G l0 e1 h) mv_X3_hasPeople wd_627 ⟨by decide, by decide⟩ rfl rfl (Nat.le_of_ble_eq_true rfl) dX8_trips_5 (fun p2 T1 h => ?_)
  obtain ⟨e2, e3⟩ := h
  refine v_ifz_eq (tgt := 22) C dX8_trips_8 (by decide) (fun e4 => ?_) (fun e4 => ?_)
  · have h := e2 e4
    refine v_ldc (n := -1000000001) C dX8_trips_22 wd_493 (by decide) ?_
    exact v_iret C E dX8_trips_24 h
  · have h := e3 e4
    refine v_aload_n C 0 dX8_trips_11 rfl ?_
    refine v_getL1 C wd_318 dX8_trips_12 (fun e5 => ?_)
    refine v_iload_n C 2 dX8_trips_15 rfl ?_
    refine v_cVZ C kX3 e5 (s_X3_hasBridge G l0 e5 h) mv_X3_hasBridge wd_540 ⟨by decide, by decide⟩ rfl rfl (Nat.le_of_ble_eq_true rfl) dX8_trips_16 (fun p4 T3 h => ?_)
    obtain ⟨e6, e7⟩ := h
    refine v_ifz_ne (tgt := 25) C dX8_trips_19 (by decide) (fun e8 => ?_) (fun e8 => ?_)
    · have h := e6 e8
      refine v_aload_n C 0 dX8_trips_25 rfl ?_
      refine v_getC C kX8 8 rfl rfl wd_325 rfl dX8_trips_26 ?_
      refine v_aload_n C 0 dX8_trips_29 rfl ?_
      refine v_getL1 C wd_318 dX8_trips_30 (fun e9 => ?_)
      refine v_aload_n C 0 dX8_trips_33 rfl ?_
      refine v_getC C kX8 3 rfl rfl wd_320 rfl dX8_trips_34 ?_
      refine v_iload_n C 1 dX8_trips_37 rfl ?_
      refine v_aload_n C 0 dX8_trips_38 rfl ?_
      refine v_getL1 C wd_318 dX8_trips_39 (fun e10 => ?_)
      refine v_getA C kX3 15 e10 rfl wd_172 rfl dX8_trips_42 ?_
      refine v_iload_n C 2 dX8_trips_45 rfl ?_
      obtain ⟨e11, e12, h⟩ := h
      refine v_iald C (ar_of e10 ar_3_15) dX8_trips_46 e11 e12 ?_
      refine v_cVN C kX1 rfl (s_X1_plan G l0 e9 rfl h) mv_X1_plan wd_649 ⟨by decide, by decide⟩ rfl rfl (Nat.le_of_ble_eq_true rfl) dX8_trips_47 (fun T5 h => ?_)
      refine v_iload_n C 3 dX8_trips_50 rfl ?_
      refine v_iconst C dX8_trips_51 ?_
      obtain ⟨e13, e14, e15⟩ := h
      refine v_icmp_ne (tgt := 67) C dX8_trips_52 (by decide) e13 ⟨by decide, by decide⟩ (fun e16 => ?_) (fun e16 => ?_)
      · have h := e14 e16
        refine v_aload_n C 0 dX8_trips_67 rfl ?_
        refine v_getC C kX8 8 rfl rfl wd_325 rfl dX8_trips_68 ?_
        refine v_iload_n C 1 dX8_trips_71 rfl ?_
        refine v_iload_n C 3 dX8_trips_72 rfl ?_
        refine v_cVI C kX1 rfl (s_X1_group G l0 h) mv_X1_group wd_658 ⟨by decide, by decide⟩ rfl rfl (Nat.le_of_ble_eq_true rfl) dX8_trips_73 (fun r7 T6 h => ?_)
        exact v_iret C E dX8_trips_76 h
      · have h := e15 e16
        refine v_aload_n C 0 dX8_trips_55 rfl ?_
        refine v_getC C kX8 8 rfl rfl wd_325 rfl dX8_trips_56 ?_
        refine v_getA C kX1 0 rfl rfl wd_257 rfl dX8_trips_59 ?_
        refine v_iload_n C 1 dX8_trips_62 rfl ?_
        obtain ⟨e17, e18, h⟩ := h
        refine v_iald C (ar_of (o := 9) rfl ar_1_0) dX8_trips_63 e17 e18 ?_
        refine v_goto (tgt := 76) C dX8_trips_64 (by decide) ?_
        exact v_iret C E dX8_trips_76 h
    · have h := e7 e8
      refine v_ldc (n := -1000000001) C dX8_trips_22 wd_493 (by decide) ?_
      exact v_iret C E dX8_trips_24 h
def wp_X8_canWeigh (v0 : Int) (T : TH) (Q : Bool → TH → Prop) : Prop :=
  zR v0 ∧ (v0 < (-999) → (Q false T)) ∧ (¬ (v0 < (-999)) → (zR v0 ∧ (999 < v0 → (Q false T)) ∧ (¬ (999 < v0) → (Q true T))))
set_option maxRecDepth 100000 in
theorem s_X8_canWeigh (G : GT) (l0 : Launch) {v0 : Int} {T : TH} {Q : Bool → TH → Prop} (h : wp_X8_canWeigh v0 T Q) : MT G l0 yX8_canWeigh cX8_canWeigh 1 (some .boolean) 0 0 [.int (zI v0)] T (QZ G Q) := by
  refine mt_of G l0 (by decide) (Nat.le_of_ble_eq_true rfl) (fun X C E => ?_)
  show V G X T 0 [(0, .int (zI v0))] []
  unfold wp_X8_canWeigh at h
  refine v_iload_n C 0 dX8_canWeigh_0 rfl ?_
  refine v_sipush C dX8_canWeigh_1 (by decide) ?_
  obtain ⟨e1, e2, e3⟩ := h
  refine v_icmp_lt (tgt := 18) C dX8_canWeigh_4 (by decide) e1 ⟨by decide, by decide⟩ (fun e4 => ?_) (fun e4 => ?_)
  · have h := e2 e4
    refine v_iconst C dX8_canWeigh_18 ?_
    exact v_zret (z := false) C E dX8_canWeigh_19 h
  · have h := e3 e4
    refine v_iload_n C 0 dX8_canWeigh_7 rfl ?_
    refine v_sipush C dX8_canWeigh_8 (by decide) ?_
    obtain ⟨e5, e6, e7⟩ := h
    refine v_icmp_gt (tgt := 18) C dX8_canWeigh_11 (by decide) e5 ⟨by decide, by decide⟩ (fun e8 => ?_) (fun e8 => ?_)
    · have h := e6 e8
      refine v_iconst C dX8_canWeigh_18 ?_
      exact v_zret (z := false) C E dX8_canWeigh_19 h
    · have h := e7 e8
      refine v_iconst C dX8_canWeigh_14 ?_
      refine v_goto (tgt := 19) C dX8_canWeigh_15 (by decide) ?_
      exact v_zret (z := true) C E dX8_canWeigh_19 h
def wp_X8_counted (v1 : Int) (v2 : Int) (v3 : Int) (v4 : Int) (T : TH) (Q : Int → TH → Prop) : Prop :=
  wp_X3_hasPerson ((T 0 1 0).toNat) v1 T (fun p2 T1 => (p2 = false → (Q (-1000000001) T1)) ∧ (p2 = true → (wp_X3_hasFactOrNone ((T1 0 1 0).toNat) v3 T1 (fun p4 T3 => (p4 = true → (wp_X8_canWeigh v2 T3 (fun p6 T5 => (p6 = false → (Q (-1000000002) T5)) ∧ (p6 = true → (zR v4 ∧ (v4 < 0 → (Q (-1000000002) T5)) ∧ (¬ (v4 < 0) → (zR v4 ∧ (v4 ≤ 1 → (zR v3 ∧ (¬ v3 = (-1) → (0 ≤ v3 ∧ v3 < 8 ∧ zR (T5 (T5 0 1 0).toNat 8 v3) ∧ zR v1 ∧ ((T5 (T5 0 1 0).toNat 8 v3) = v1 → (0 ≤ v1 ∧ v1 < 7 ∧ wp_X7_spread ((T5 0 1 0).toNat) (zand (T5 (T5 0 1 0).toNat 11 v1) (zxor (zshl 1 v3) (-1))) T5 (fun T7 => zR v4 ∧ (¬ v4 = 0 → (wp_X7_mostHeads ((T7 0 1 0).toNat) v3 v2 T7 (fun r9 T8 => Q r9 T8))) ∧ (v4 = 0 → (wp_X7_fewestHeads ((T7 0 1 0).toNat) v3 v2 T7 (fun r11 T10 => Q r11 T10)))))) ∧ (¬ ((T5 (T5 0 1 0).toNat 8 v3) = v1) → (Q (-1) T5)))) ∧ (v3 = (-1) → (0 ≤ v1 ∧ v1 < 7 ∧ wp_X7_spread ((T5 0 1 0).toNat) (T5 (T5 0 1 0).toNat 11 v1) T5 (fun T12 => wp_X7_countAt v2 T12 (fun r14 T13 => Q r14 T13)))))) ∧ (¬ (v4 ≤ 1) → (Q (-1000000002) T5))))))))) ∧ (p4 = false → (Q (-1000000001) T3))))))
set_option maxRecDepth 100000 in
theorem s_X8_counted (G : GT) (l0 : Launch) {v1 : Int} {v2 : Int} {v3 : Int} {v4 : Int} {T : TH} {Q : Int → TH → Prop} (h : wp_X8_counted v1 v2 v3 v4 T Q) : MT G l0 yX8_counted cX8_counted 5 (some .int) 3 79 [.ref (gad G 0), .int (zI v1), .int (zI v2), .int (zI v3), .int (zI v4)] T (QI G Q) := by
  refine mt_of G l0 (by decide) (Nat.le_of_ble_eq_true rfl) (fun X C E => ?_)
  show V G X T 0 [(0, .ref (gad G 0)), (1, .int (zI v1)), (2, .int (zI v2)), (3, .int (zI v3)), (4, .int (zI v4))] []
  unfold wp_X8_counted at h
  refine v_aload_n C 0 dX8_counted_0 rfl ?_
  refine v_getL1 C wd_318 dX8_counted_1 (fun e1 => ?_)
  refine v_iload_n C 1 dX8_counted_4 rfl ?_
  refine v_cVZ C kX3 e1 (s_X3_hasPerson G l0 e1 h) mv_X3_hasPerson wd_503 ⟨by decide, by decide⟩ rfl rfl (Nat.le_of_ble_eq_true rfl) dX8_counted_5 (fun p2 T1 h => ?_)
  obtain ⟨e2, e3⟩ := h
  refine v_ifz_eq (tgt := 22) C dX8_counted_8 (by decide) (fun e4 => ?_) (fun e4 => ?_)
  · have h := e2 e4
    refine v_ldc (n := -1000000001) C dX8_counted_22 wd_493 (by decide) ?_
    exact v_iret C E dX8_counted_24 h
  · have h := e3 e4
    refine v_aload_n C 0 dX8_counted_11 rfl ?_
    refine v_getL1 C wd_318 dX8_counted_12 (fun e5 => ?_)
    refine v_iload_n C 3 dX8_counted_15 rfl ?_
    refine v_cVZ C kX3 e5 (s_X3_hasFactOrNone G l0 e5 h) mv_X3_hasFactOrNone wd_632 ⟨by decide, by decide⟩ rfl rfl (Nat.le_of_ble_eq_true rfl) dX8_counted_16 (fun p4 T3 h => ?_)
    obtain ⟨e6, e7⟩ := h
    refine v_ifz_ne (tgt := 25) C dX8_counted_19 (by decide) (fun e8 => ?_) (fun e8 => ?_)
    · have h := e6 e8
      refine v_iload_n C 2 dX8_counted_25 rfl ?_
      refine v_cSZ C (s_X8_canWeigh G l0 h) mv_X8_canWeigh wd_670 ⟨by decide, by decide⟩ rfl rfl (Nat.le_of_ble_eq_true rfl) dX8_counted_26 (fun p6 T5 h => ?_)
      obtain ⟨e9, e10⟩ := h
      refine v_ifz_eq (tgt := 43) C dX8_counted_29 (by decide) (fun e11 => ?_) (fun e11 => ?_)
      · have h := e9 e11
        refine v_ldc (n := -1000000002) C dX8_counted_43 wd_358 (by decide) ?_
        exact v_iret C E dX8_counted_45 h
      · have h := e10 e11
        refine v_iload C 4 dX8_counted_32 rfl ?_
        obtain ⟨e12, e13, e14⟩ := h
        refine v_if_lt (tgt := 43) C dX8_counted_34 (by decide) e12 (fun e15 => ?_) (fun e15 => ?_)
        · have h := e13 e15
          refine v_ldc (n := -1000000002) C dX8_counted_43 wd_358 (by decide) ?_
          exact v_iret C E dX8_counted_45 h
        · have h := e14 e15
          refine v_iload C 4 dX8_counted_37 rfl ?_
          refine v_iconst C dX8_counted_39 ?_
          obtain ⟨e16, e17, e18⟩ := h
          refine v_icmp_le (tgt := 46) C dX8_counted_40 (by decide) e16 ⟨by decide, by decide⟩ (fun e19 => ?_) (fun e19 => ?_)
          · have h := e17 e19
            refine v_iload_n C 3 dX8_counted_46 rfl ?_
            refine v_iconst C dX8_counted_47 ?_
            obtain ⟨e20, e21, e22⟩ := h
            refine v_icmp_ne (tgt := 80) C dX8_counted_48 (by decide) e20 ⟨by decide, by decide⟩ (fun e23 => ?_) (fun e23 => ?_)
            · have h := e21 e23
              refine v_aload_n C 0 dX8_counted_80 rfl ?_
              refine v_getL1 C wd_318 dX8_counted_81 (fun e24 => ?_)
              refine v_getA C kX3 8 e24 rfl wd_151 rfl dX8_counted_84 ?_
              refine v_iload_n C 3 dX8_counted_87 rfl ?_
              obtain ⟨e25, e26, h⟩ := h
              refine v_iald C (ar_of e24 ar_3_8) dX8_counted_88 e25 e26 ?_
              refine v_iload_n C 1 dX8_counted_89 rfl ?_
              obtain ⟨e27, e28, e29, e30⟩ := h
              refine v_icmp_eq (tgt := 95) C dX8_counted_90 (by decide) e27 e28 (fun e31 => ?_) (fun e31 => ?_)
              · have h := e29 e31
                refine v_aload_n C 0 dX8_counted_95 rfl ?_
                refine v_getC C kX8 9 rfl rfl wd_326 rfl dX8_counted_96 ?_
                refine v_aload_n C 0 dX8_counted_99 rfl ?_
                refine v_getL1 C wd_318 dX8_counted_100 (fun e32 => ?_)
                refine v_aload_n C 0 dX8_counted_103 rfl ?_
                refine v_getL1 C wd_318 dX8_counted_104 (fun e33 => ?_)
                refine v_getA C kX3 11 e33 rfl wd_163 rfl dX8_counted_107 ?_
                refine v_iload_n C 1 dX8_counted_110 rfl ?_
                obtain ⟨e34, e35, h⟩ := h
                refine v_iald C (ar_of e33 ar_3_11) dX8_counted_111 e34 e35 ?_
                refine v_iconst C dX8_counted_112 ?_
                refine v_iload_n C 3 dX8_counted_113 rfl ?_
                refine v_ishl C dX8_counted_114 ?_
                refine v_iconst C dX8_counted_115 ?_
                refine v_ixor C dX8_counted_116 ?_
                refine v_iand C dX8_counted_117 ?_
                refine v_cVN C kX7 rfl (s_X7_spread G l0 e32 h) mv_X7_spread wd_673 ⟨by decide, by decide⟩ rfl rfl (Nat.le_of_ble_eq_true rfl) dX8_counted_118 (fun T7 h => ?_)
                refine v_iload C 4 dX8_counted_121 rfl ?_
                obtain ⟨e36, e37, e38⟩ := h
                refine v_if_ne (tgt := 142) C dX8_counted_123 (by decide) e36 (fun e39 => ?_) (fun e39 => ?_)
                · have h := e37 e39
                  refine v_aload_n C 0 dX8_counted_142 rfl ?_
                  refine v_getC C kX8 9 rfl rfl wd_326 rfl dX8_counted_143 ?_
                  refine v_aload_n C 0 dX8_counted_146 rfl ?_
                  refine v_getL1 C wd_318 dX8_counted_147 (fun e40 => ?_)
                  refine v_iload_n C 3 dX8_counted_150 rfl ?_
                  refine v_iload_n C 2 dX8_counted_151 rfl ?_
                  refine v_cVI C kX7 rfl (s_X7_mostHeads G l0 e40 h) mv_X7_mostHeads wd_700 ⟨by decide, by decide⟩ rfl rfl (Nat.le_of_ble_eq_true rfl) dX8_counted_152 (fun r9 T8 h => ?_)
                  exact v_iret C E dX8_counted_155 h
                · have h := e38 e39
                  refine v_aload_n C 0 dX8_counted_126 rfl ?_
                  refine v_getC C kX8 9 rfl rfl wd_326 rfl dX8_counted_127 ?_
                  refine v_aload_n C 0 dX8_counted_130 rfl ?_
                  refine v_getL1 C wd_318 dX8_counted_131 (fun e41 => ?_)
                  refine v_iload_n C 3 dX8_counted_134 rfl ?_
                  refine v_iload_n C 2 dX8_counted_135 rfl ?_
                  refine v_cVI C kX7 rfl (s_X7_fewestHeads G l0 e41 h) mv_X7_fewestHeads wd_690 ⟨by decide, by decide⟩ rfl rfl (Nat.le_of_ble_eq_true rfl) dX8_counted_136 (fun r11 T10 h => ?_)
                  refine v_goto (tgt := 155) C dX8_counted_139 (by decide) ?_
                  exact v_iret C E dX8_counted_155 h
              · have h := e30 e31
                refine v_iconst C dX8_counted_93 ?_
                exact v_iret C E dX8_counted_94 h
            · have h := e22 e23
              refine v_aload_n C 0 dX8_counted_51 rfl ?_
              refine v_getC C kX8 9 rfl rfl wd_326 rfl dX8_counted_52 ?_
              refine v_aload_n C 0 dX8_counted_55 rfl ?_
              refine v_getL1 C wd_318 dX8_counted_56 (fun e42 => ?_)
              refine v_aload_n C 0 dX8_counted_59 rfl ?_
              refine v_getL1 C wd_318 dX8_counted_60 (fun e43 => ?_)
              refine v_getA C kX3 11 e43 rfl wd_163 rfl dX8_counted_63 ?_
              refine v_iload_n C 1 dX8_counted_66 rfl ?_
              obtain ⟨e44, e45, h⟩ := h
              refine v_iald C (ar_of e43 ar_3_11) dX8_counted_67 e44 e45 ?_
              refine v_cVN C kX7 rfl (s_X7_spread G l0 e42 h) mv_X7_spread wd_673 ⟨by decide, by decide⟩ rfl rfl (Nat.le_of_ble_eq_true rfl) dX8_counted_68 (fun T12 h => ?_)
              refine v_aload_n C 0 dX8_counted_71 rfl ?_
              refine v_getC C kX8 9 rfl rfl wd_326 rfl dX8_counted_72 ?_
              refine v_iload_n C 2 dX8_counted_75 rfl ?_
              refine v_cVI C kX7 rfl (s_X7_countAt G l0 h) mv_X7_countAt wd_686 ⟨by decide, by decide⟩ rfl rfl (Nat.le_of_ble_eq_true rfl) dX8_counted_76 (fun r14 T13 h => ?_)
              exact v_iret C E dX8_counted_79 h
          · have h := e18 e19
            refine v_ldc (n := -1000000002) C dX8_counted_43 wd_358 (by decide) ?_
            exact v_iret C E dX8_counted_45 h
    · have h := e7 e8
      refine v_ldc (n := -1000000001) C dX8_counted_22 wd_493 (by decide) ?_
      exact v_iret C E dX8_counted_24 h
def b_X8_lies_135 (v1 : Int) (v2 : Int) (v3 : Int) (Q : Int → TH → Prop) (K72 : Int → Int → Int → Int → Int → Int → TH → Prop) (v4 : Int) (v5 : Int) (v6 : Int) (v7 : Int) (v8 : Int) (v9 : Int) (T : TH) : Prop :=
  K72 v4 v5 v6 v7 v8 (v9 + 1) T
def b_X8_lies_123 (v1 : Int) (v2 : Int) (v3 : Int) (Q : Int → TH → Prop) (K72 : Int → Int → Int → Int → Int → Int → TH → Prop) (v4 : Int) (v5 : Int) (v6 : Int) (v8 : Int) (v9 : Int) (s0 : Int) (T : TH) : Prop :=
  ∀ w1 : Int, w1 = (zand v8 v9) → b_X8_lies_135 v1 v2 v3 Q K72 v4 v5 (v6 + 1) s0 w1 v9 T
def h_X8_lies_72 (v1 : Int) (v2 : Int) (v3 : Int) (Q : Int → TH → Prop) : Nat → Int → Int → Int → Int → Int → Int → TH → Prop
  | 0, _, _, _, _, _, _, _ => False
  | n + 1, v4, v5, v6, v7, v8, v9, T => zR v9 ∧ zR v4 ∧ (v4 < v9 → (zR v3 ∧ (¬ v3 = 0 → (zR v3 ∧ (¬ v3 = 1 → (zR v6 ∧ (¬ v6 = 0 → (Q v8 T)) ∧ (v6 = 0 → (Q 0 T)))) ∧ (v3 = 1 → (Q v7 T)))) ∧ (v3 = 0 → (Q v6 T)))) ∧ (¬ (v4 < v9) → (zR (zand v9 (zxor v4 (-1))) ∧ (¬ (zand v9 (zxor v4 (-1))) = 0 → (b_X8_lies_135 v1 v2 v3 Q (h_X8_lies_72 v1 v2 v3 Q n) v4 v5 v6 v7 v8 v9 T)) ∧ ((zand v9 (zxor v4 (-1))) = 0 → (wp_X2_gramsOf 4 ((T 0 1 0).toNat) v9 T (fun r2 T1 => zR (v5 - (2 * r2)) ∧ zR v2 ∧ (¬ (v5 - (2 * r2)) = v2 → (b_X8_lies_135 v1 v2 v3 Q (h_X8_lies_72 v1 v2 v3 Q n) v4 v5 v6 v7 v8 v9 T1)) ∧ ((v5 - (2 * r2)) = v2 → (zR v6 ∧ (¬ v6 = 0 → (b_X8_lies_123 v1 v2 v3 Q (h_X8_lies_72 v1 v2 v3 Q n) v4 v5 v6 v8 v9 v7 T1)) ∧ (v6 = 0 → (b_X8_lies_123 v1 v2 v3 Q (h_X8_lies_72 v1 v2 v3 Q n) v4 v5 v6 v8 v9 v9 T1)))))))))
def wp_X8_lies (v1 : Int) (v2 : Int) (v3 : Int) (T : TH) (Q : Int → TH → Prop) : Prop :=
  wp_X3_hasPerson ((T 0 1 0).toNat) v1 T (fun p2 T1 => (p2 = true → (wp_X8_canWeigh v2 T1 (fun p4 T3 => (p4 = false → (Q (-1000000002) T3)) ∧ (p4 = true → (zR v3 ∧ (v3 < 0 → (Q (-1000000002) T3)) ∧ (¬ (v3 < 0) → (zR v3 ∧ (v3 ≤ 2 → (0 ≤ v1 ∧ v1 < 7 ∧ ∀ w5 : Int, w5 = (T3 (T3 0 1 0).toNat 11 v1) → wp_X2_gramsOf 4 ((T3 0 1 0).toNat) w5 T3 (fun r7 T6 => (∃ m9 : Nat, h_X8_lies_72 v1 v2 v3 Q m9 w5 r7 0 (-1) w5 0 T6)))) ∧ (¬ (v3 ≤ 2) → (Q (-1000000002) T3))))))))) ∧ (p2 = false → (Q (-1000000001) T1)))
set_option maxRecDepth 100000 in
theorem t_X8_lies_135 {G : GT} {l0 : Launch} {X : CX} (C : CT G l0 X cX8_lies 10 RX8 (rM 3 66)) {Q : Int → TH → Prop} (E : EN G X (some .int) (QI G Q)) {v1 : Int} {v2 : Int} {v3 : Int} {K72 : Int → Int → Int → Int → Int → Int → TH → Prop} (k72 : ∀ (v4 : Int) (v5 : Int) (v6 : Int) (v7 : Int) (v8 : Int) (v9 : Int) (T : TH), K72 v4 v5 v6 v7 v8 v9 T → V G X T 72 [(0, .ref (gad G 0)), (1, .int (zI v1)), (2, .int (zI v2)), (3, .int (zI v3)), (4, .int (zI v4)), (5, .int (zI v5)), (6, .int (zI v6)), (7, .int (zI v7)), (8, .int (zI v8)), (9, .int (zI v9))] []) {v4 : Int} {v5 : Int} {v6 : Int} {v7 : Int} {v8 : Int} {v9 : Int} {T : TH} (h : b_X8_lies_135 v1 v2 v3 Q K72 v4 v5 v6 v7 v8 v9 T) : V G X T 135 [(0, .ref (gad G 0)), (1, .int (zI v1)), (2, .int (zI v2)), (3, .int (zI v3)), (4, .int (zI v4)), (5, .int (zI v5)), (6, .int (zI v6)), (7, .int (zI v7)), (8, .int (zI v8)), (9, .int (zI v9))] [] := by
  unfold b_X8_lies_135 at h
  refine v_iinc C 9 dX8_lies_135 rfl (by decide) ?_
  refine v_goto (tgt := 72) C dX8_lies_138 (by decide) ?_
  exact v_sub [1, 2, 3, 4, 5, 6, 7, 8, 9, 0] rfl (k72 _ _ _ _ _ _ _ h)
set_option maxRecDepth 100000 in
theorem t_X8_lies_123 {G : GT} {l0 : Launch} {X : CX} (C : CT G l0 X cX8_lies 10 RX8 (rM 3 66)) {Q : Int → TH → Prop} (E : EN G X (some .int) (QI G Q)) {v1 : Int} {v2 : Int} {v3 : Int} {K72 : Int → Int → Int → Int → Int → Int → TH → Prop} (k72 : ∀ (v4 : Int) (v5 : Int) (v6 : Int) (v7 : Int) (v8 : Int) (v9 : Int) (T : TH), K72 v4 v5 v6 v7 v8 v9 T → V G X T 72 [(0, .ref (gad G 0)), (1, .int (zI v1)), (2, .int (zI v2)), (3, .int (zI v3)), (4, .int (zI v4)), (5, .int (zI v5)), (6, .int (zI v6)), (7, .int (zI v7)), (8, .int (zI v8)), (9, .int (zI v9))] []) {v4 : Int} {v5 : Int} {v6 : Int} {v8 : Int} {v9 : Int} {s0 : Int} {T : TH} (h : b_X8_lies_123 v1 v2 v3 Q K72 v4 v5 v6 v8 v9 s0 T) : V G X T 123 [(0, .ref (gad G 0)), (1, .int (zI v1)), (2, .int (zI v2)), (3, .int (zI v3)), (4, .int (zI v4)), (5, .int (zI v5)), (6, .int (zI v6)), (8, .int (zI v8)), (9, .int (zI v9))] [.int (zI s0)] := by
  unfold b_X8_lies_123 at h
  refine v_istore C dX8_lies_123 (by decide) ?_
  refine v_iload C 8 dX8_lies_125 rfl ?_
  refine v_iload C 9 dX8_lies_127 rfl ?_
  refine v_iand C dX8_lies_129 ?_
  refine v_istore C dX8_lies_130 (by decide) ?_
  have h := h _ rfl
  refine v_iinc C 8 dX8_lies_132 rfl (by decide) ?_
  exact v_sub [3, 4, 5, 6, 7, 8, 0, 2, 1, 9] rfl (t_X8_lies_135 C E k72 h)
set_option maxRecDepth 100000 in
theorem t_X8_lies_72 {G : GT} {l0 : Launch} {X : CX} (C : CT G l0 X cX8_lies 10 RX8 (rM 3 66)) {Q : Int → TH → Prop} (E : EN G X (some .int) (QI G Q)) {v1 : Int} {v2 : Int} {v3 : Int} : ∀ (n : Nat) (v4 : Int) (v5 : Int) (v6 : Int) (v7 : Int) (v8 : Int) (v9 : Int) (T : TH), h_X8_lies_72 v1 v2 v3 Q n v4 v5 v6 v7 v8 v9 T → V G X T 72 [(0, .ref (gad G 0)), (1, .int (zI v1)), (2, .int (zI v2)), (3, .int (zI v3)), (4, .int (zI v4)), (5, .int (zI v5)), (6, .int (zI v6)), (7, .int (zI v7)), (8, .int (zI v8)), (9, .int (zI v9))] [] := by
  intro n
  induction n with
  | zero =>
    intro v4 v5 v6 v7 v8 v9 T h
    exact h.elim
  | succ n ih =>
    intro v4 v5 v6 v7 v8 v9 T h
    rw [h_X8_lies_72] at h
    refine v_iload C 9 dX8_lies_72 rfl ?_
    refine v_iload C 4 dX8_lies_74 rfl ?_
    obtain ⟨e1, e2, e3, e4⟩ := h
    refine v_icmp_gt (tgt := 141) C dX8_lies_76 (by decide) e1 e2 (fun e5 => ?_) (fun e5 => ?_)
    · have h := e3 e5
      refine v_iload_n C 3 dX8_lies_141 rfl ?_
      obtain ⟨e6, e7, e8⟩ := h
      refine v_if_ne (tgt := 148) C dX8_lies_142 (by decide) e6 (fun e9 => ?_) (fun e9 => ?_)
      · have h := e7 e9
        refine v_iload_n C 3 dX8_lies_148 rfl ?_
        refine v_iconst C dX8_lies_149 ?_
        obtain ⟨e10, e11, e12⟩ := h
        refine v_icmp_ne (tgt := 156) C dX8_lies_150 (by decide) e10 ⟨by decide, by decide⟩ (fun e13 => ?_) (fun e13 => ?_)
        · have h := e11 e13
          refine v_iload C 6 dX8_lies_156 rfl ?_
          obtain ⟨e14, e15, e16⟩ := h
          refine v_if_ne (tgt := 165) C dX8_lies_158 (by decide) e14 (fun e17 => ?_) (fun e17 => ?_)
          · have h := e15 e17
            refine v_iload C 8 dX8_lies_165 rfl ?_
            exact v_iret C E dX8_lies_167 h
          · have h := e16 e17
            refine v_iconst C dX8_lies_161 ?_
            refine v_goto (tgt := 167) C dX8_lies_162 (by decide) ?_
            exact v_iret C E dX8_lies_167 h
        · have h := e12 e13
          refine v_iload C 7 dX8_lies_153 rfl ?_
          exact v_iret C E dX8_lies_155 h
      · have h := e8 e9
        refine v_iload C 6 dX8_lies_145 rfl ?_
        exact v_iret C E dX8_lies_147 h
    · have h := e4 e5
      refine v_iload C 9 dX8_lies_79 rfl ?_
      refine v_iload C 4 dX8_lies_81 rfl ?_
      refine v_iconst C dX8_lies_83 ?_
      refine v_ixor C dX8_lies_84 ?_
      refine v_iand C dX8_lies_85 ?_
      obtain ⟨e18, e19, e20⟩ := h
      refine v_if_ne (tgt := 135) C dX8_lies_86 (by decide) e18 (fun e21 => ?_) (fun e21 => ?_)
      · have h := e19 e21
        exact v_sub [0, 1, 2, 3, 4, 5, 6, 7, 8, 9] rfl (t_X8_lies_135 C E ih h)
      · have h := e20 e21
        refine v_iload C 5 dX8_lies_89 rfl ?_
        refine v_iconst C dX8_lies_91 ?_
        refine v_aload_n C 0 dX8_lies_92 rfl ?_
        refine v_getC C kX8 3 rfl rfl wd_320 rfl dX8_lies_93 ?_
        refine v_aload_n C 0 dX8_lies_96 rfl ?_
        refine v_getL1 C wd_318 dX8_lies_97 (fun e22 => ?_)
        refine v_iload C 9 dX8_lies_100 rfl ?_
        refine v_cVI C kX2 rfl (s_X2_gramsOf G l0 rfl e22 h) mv_X2_gramsOf wd_708 ⟨by decide, by decide⟩ rfl rfl (Nat.le_of_ble_eq_true rfl) dX8_lies_102 (fun r2 T1 h => ?_)
        refine v_imul C dX8_lies_105 ?_
        refine v_isub C dX8_lies_106 ?_
        refine v_iload_n C 2 dX8_lies_107 rfl ?_
        obtain ⟨e23, e24, e25, e26⟩ := h
        refine v_icmp_ne (tgt := 135) C dX8_lies_108 (by decide) e23 e24 (fun e27 => ?_) (fun e27 => ?_)
        · have h := e25 e27
          exact v_sub [0, 1, 2, 3, 4, 5, 6, 7, 8, 9] rfl (t_X8_lies_135 C E ih h)
        · have h := e26 e27
          refine v_iload C 6 dX8_lies_111 rfl ?_
          obtain ⟨e28, e29, e30⟩ := h
          refine v_if_ne (tgt := 121) C dX8_lies_113 (by decide) e28 (fun e31 => ?_) (fun e31 => ?_)
          · have h := e29 e31
            refine v_iload C 7 dX8_lies_121 rfl ?_
            exact v_sub [0, 1, 2, 3, 4, 5, 6, 8, 9] rfl (t_X8_lies_123 C E ih h)
          · have h := e30 e31
            refine v_iload C 9 dX8_lies_116 rfl ?_
            refine v_goto (tgt := 123) C dX8_lies_118 (by decide) ?_
            exact v_sub [0, 1, 2, 3, 4, 5, 6, 8, 9] rfl (t_X8_lies_123 C E ih h)
set_option maxRecDepth 100000 in
theorem s_X8_lies (G : GT) (l0 : Launch) {v1 : Int} {v2 : Int} {v3 : Int} {T : TH} {Q : Int → TH → Prop} (h : wp_X8_lies v1 v2 v3 T Q) : MT G l0 yX8_lies cX8_lies 10 (some .int) 3 66 [.ref (gad G 0), .int (zI v1), .int (zI v2), .int (zI v3)] T (QI G Q) := by
  refine mt_of G l0 (by decide) (Nat.le_of_ble_eq_true rfl) (fun X C E => ?_)
  show V G X T 0 [(0, .ref (gad G 0)), (1, .int (zI v1)), (2, .int (zI v2)), (3, .int (zI v3))] []
  unfold wp_X8_lies at h
  refine v_aload_n C 0 dX8_lies_0 rfl ?_
  refine v_getL1 C wd_318 dX8_lies_1 (fun e1 => ?_)
  refine v_iload_n C 1 dX8_lies_4 rfl ?_
  refine v_cVZ C kX3 e1 (s_X3_hasPerson G l0 e1 h) mv_X3_hasPerson wd_503 ⟨by decide, by decide⟩ rfl rfl (Nat.le_of_ble_eq_true rfl) dX8_lies_5 (fun p2 T1 h => ?_)
  obtain ⟨e2, e3⟩ := h
  refine v_ifz_ne (tgt := 14) C dX8_lies_8 (by decide) (fun e4 => ?_) (fun e4 => ?_)
  · have h := e2 e4
    refine v_iload_n C 2 dX8_lies_14 rfl ?_
    refine v_cSZ C (s_X8_canWeigh G l0 h) mv_X8_canWeigh wd_670 ⟨by decide, by decide⟩ rfl rfl (Nat.le_of_ble_eq_true rfl) dX8_lies_15 (fun p4 T3 h => ?_)
    obtain ⟨e5, e6⟩ := h
    refine v_ifz_eq (tgt := 30) C dX8_lies_18 (by decide) (fun e7 => ?_) (fun e7 => ?_)
    · have h := e5 e7
      refine v_ldc (n := -1000000002) C dX8_lies_30 wd_358 (by decide) ?_
      exact v_iret C E dX8_lies_32 h
    · have h := e6 e7
      refine v_iload_n C 3 dX8_lies_21 rfl ?_
      obtain ⟨e8, e9, e10⟩ := h
      refine v_if_lt (tgt := 30) C dX8_lies_22 (by decide) e8 (fun e11 => ?_) (fun e11 => ?_)
      · have h := e9 e11
        refine v_ldc (n := -1000000002) C dX8_lies_30 wd_358 (by decide) ?_
        exact v_iret C E dX8_lies_32 h
      · have h := e10 e11
        refine v_iload_n C 3 dX8_lies_25 rfl ?_
        refine v_iconst C dX8_lies_26 ?_
        obtain ⟨e12, e13, e14⟩ := h
        refine v_icmp_le (tgt := 33) C dX8_lies_27 (by decide) e12 ⟨by decide, by decide⟩ (fun e15 => ?_) (fun e15 => ?_)
        · have h := e13 e15
          refine v_aload_n C 0 dX8_lies_33 rfl ?_
          refine v_getL1 C wd_318 dX8_lies_34 (fun e16 => ?_)
          refine v_getA C kX3 11 e16 rfl wd_163 rfl dX8_lies_37 ?_
          refine v_iload_n C 1 dX8_lies_40 rfl ?_
          obtain ⟨e17, e18, h⟩ := h
          refine v_iald C (ar_of e16 ar_3_11) dX8_lies_41 e17 e18 ?_
          refine v_istore C dX8_lies_42 (by decide) ?_
          have h := h _ rfl
          refine v_aload_n C 1 dX8_lies_44 rfl ?_
          refine v_getC C kX8 3 rfl rfl wd_320 rfl dX8_lies_45 ?_
          refine v_aload_n C 1 dX8_lies_48 rfl ?_
          refine v_getL1 C wd_318 dX8_lies_49 (fun e19 => ?_)
          refine v_iload C 0 dX8_lies_52 rfl ?_
          refine v_cVI C kX2 rfl (s_X2_gramsOf G l0 rfl e19 h) mv_X2_gramsOf wd_708 ⟨by decide, by decide⟩ rfl rfl (Nat.le_of_ble_eq_true rfl) dX8_lies_54 (fun r7 T6 h => ?_)
          refine v_istore C dX8_lies_57 (by decide) ?_
          refine v_iconst C dX8_lies_59 ?_
          refine v_istore C dX8_lies_60 (by decide) ?_
          refine v_iconst C dX8_lies_62 ?_
          refine v_istore C dX8_lies_63 (by decide) ?_
          refine v_iload C 3 dX8_lies_65 rfl ?_
          refine v_istore C dX8_lies_67 (by decide) ?_
          refine v_iconst C dX8_lies_69 ?_
          refine v_istore C dX8_lies_70 (by decide) ?_
          obtain ⟨n9, h⟩ := h
          exact v_sub [6, 7, 8, 9, 5, 4, 3, 2, 1, 0] rfl (t_X8_lies_72 C E n9 _ _ _ _ _ _ _ h)
        · have h := e14 e15
          refine v_ldc (n := -1000000002) C dX8_lies_30 wd_358 (by decide) ?_
          exact v_iret C E dX8_lies_32 h
  · have h := e3 e4
    refine v_ldc (n := -1000000001) C dX8_lies_11 wd_493 (by decide) ?_
    exact v_iret C E dX8_lies_13 h
def b_X8_fewestToBreak_89 (v1 : Int) (v2 : Int) (Q : Int → TH → Prop) (K15 : Int → Int → TH → Prop) (v3 : Int) (v4 : Int) (T : TH) : Prop :=
  K15 v3 (v4 + 1) T
def b_X8_fewestToBreak_86 (v1 : Int) (v2 : Int) (Q : Int → TH → Prop) (K15 : Int → Int → TH → Prop) (v4 : Int) (v5 : Int) (T : TH) : Prop :=
  b_X8_fewestToBreak_89 v1 v2 Q K15 v5 v4 T
def h_X8_fewestToBreak_15 (v1 : Int) (v2 : Int) (Q : Int → TH → Prop) : Nat → Int → Int → TH → Prop
  | 0, _, _, _ => False
  | n + 1, v3, v4, T => zR v4 ∧ zR (zshl 1 (T (T 0 1 0).toNat 0 0)) ∧ ((zshl 1 (T (T 0 1 0).toNat 0 0)) ≤ v4 → (Q v3 T)) ∧ (¬ ((zshl 1 (T (T 0 1 0).toNat 0 0)) ≤ v4) → (zR (zand v1 (zxor v4 (-1))) ∧ (¬ (zand v1 (zxor v4 (-1))) = 0 → (b_X8_fewestToBreak_89 v1 v2 Q (h_X8_fewestToBreak_15 v1 v2 Q n) v3 v4 T)) ∧ ((zand v1 (zxor v4 (-1))) = 0 → (zR (zand (zshr v4 v2) 1) ∧ (¬ (zand (zshr v4 v2) 1) = 0 → (b_X8_fewestToBreak_89 v1 v2 Q (h_X8_fewestToBreak_15 v1 v2 Q n) v3 v4 T)) ∧ ((zand (zshr v4 v2) 1) = 0 → (wp_X3_waysOut ((T 0 1 0).toNat) v4 T (fun r2 T1 => wp_J6_bitCount_0f7a4 r2 T1 (fun r4 T3 => wp_J6_bitCount_0f7a4 v3 T3 (fun r6 T5 => ∀ w7 : Int, w7 = (r4 - r6) → zR w7 ∧ (w7 < 0 → (b_X8_fewestToBreak_86 v1 v2 Q (h_X8_fewestToBreak_15 v1 v2 Q n) v4 r2 T5)) ∧ (¬ (w7 < 0) → (zR w7 ∧ (¬ w7 = 0 → (b_X8_fewestToBreak_89 v1 v2 Q (h_X8_fewestToBreak_15 v1 v2 Q n) v3 v4 T5)) ∧ (w7 = 0 → (zR r2 ∧ zR v3 ∧ (v3 ≤ r2 → (b_X8_fewestToBreak_89 v1 v2 Q (h_X8_fewestToBreak_15 v1 v2 Q n) v3 v4 T5)) ∧ (¬ (v3 ≤ r2) → (b_X8_fewestToBreak_86 v1 v2 Q (h_X8_fewestToBreak_15 v1 v2 Q n) v4 r2 T5)))))))))))))))
def wp_X8_fewestToBreak (v1 : Int) (v2 : Int) (T : TH) (Q : Int → TH → Prop) : Prop :=
  ∀ w1 : Int, w1 = ((zshl 1 (T (T 0 1 0).toNat 2 0)) - 1) → (∃ m9 : Nat, h_X8_fewestToBreak_15 v1 v2 Q m9 w1 0 T)
set_option maxRecDepth 100000 in
theorem t_X8_fewestToBreak_89 {G : GT} {l0 : Launch} {X : CX} (C : CT G l0 X cX8_fewestToBreak 7 RX8 (rM 1 28)) {Q : Int → TH → Prop} (E : EN G X (some .int) (QI G Q)) {v1 : Int} {v2 : Int} {K15 : Int → Int → TH → Prop} (k15 : ∀ (v3 : Int) (v4 : Int) (T : TH), K15 v3 v4 T → V G X T 15 [(0, .ref (gad G 0)), (1, .int (zI v1)), (2, .int (zI v2)), (3, .int (zI v3)), (4, .int (zI v4))] []) {v3 : Int} {v4 : Int} {T : TH} (h : b_X8_fewestToBreak_89 v1 v2 Q K15 v3 v4 T) : V G X T 89 [(0, .ref (gad G 0)), (1, .int (zI v1)), (2, .int (zI v2)), (3, .int (zI v3)), (4, .int (zI v4))] [] := by
  unfold b_X8_fewestToBreak_89 at h
  refine v_iinc C 4 dX8_fewestToBreak_89 rfl (by decide) ?_
  refine v_goto (tgt := 15) C dX8_fewestToBreak_92 (by decide) ?_
  exact v_sub [1, 2, 3, 4, 0] rfl (k15 _ _ _ h)
set_option maxRecDepth 100000 in
theorem t_X8_fewestToBreak_86 {G : GT} {l0 : Launch} {X : CX} (C : CT G l0 X cX8_fewestToBreak 7 RX8 (rM 1 28)) {Q : Int → TH → Prop} (E : EN G X (some .int) (QI G Q)) {v1 : Int} {v2 : Int} {K15 : Int → Int → TH → Prop} (k15 : ∀ (v3 : Int) (v4 : Int) (T : TH), K15 v3 v4 T → V G X T 15 [(0, .ref (gad G 0)), (1, .int (zI v1)), (2, .int (zI v2)), (3, .int (zI v3)), (4, .int (zI v4))] []) {v4 : Int} {v5 : Int} {T : TH} (h : b_X8_fewestToBreak_86 v1 v2 Q K15 v4 v5 T) : V G X T 86 [(0, .ref (gad G 0)), (1, .int (zI v1)), (2, .int (zI v2)), (4, .int (zI v4)), (5, .int (zI v5))] [] := by
  unfold b_X8_fewestToBreak_86 at h
  refine v_iload C 4 dX8_fewestToBreak_86 rfl ?_
  refine v_istore_n C dX8_fewestToBreak_88 rfl (by decide) ?_
  exact v_sub [1, 2, 3, 0, 4] rfl (t_X8_fewestToBreak_89 C E k15 h)
set_option maxRecDepth 100000 in
theorem t_X8_fewestToBreak_15 {G : GT} {l0 : Launch} {X : CX} (C : CT G l0 X cX8_fewestToBreak 7 RX8 (rM 1 28)) {Q : Int → TH → Prop} (E : EN G X (some .int) (QI G Q)) {v1 : Int} {v2 : Int} : ∀ (n : Nat) (v3 : Int) (v4 : Int) (T : TH), h_X8_fewestToBreak_15 v1 v2 Q n v3 v4 T → V G X T 15 [(0, .ref (gad G 0)), (1, .int (zI v1)), (2, .int (zI v2)), (3, .int (zI v3)), (4, .int (zI v4))] [] := by
  intro n
  induction n with
  | zero =>
    intro v3 v4 T h
    exact h.elim
  | succ n ih =>
    intro v3 v4 T h
    rw [h_X8_fewestToBreak_15] at h
    refine v_iload C 4 dX8_fewestToBreak_15 rfl ?_
    refine v_iconst C dX8_fewestToBreak_17 ?_
    refine v_aload_n C 0 dX8_fewestToBreak_18 rfl ?_
    refine v_getL1 C wd_318 dX8_fewestToBreak_19 (fun e1 => ?_)
    refine v_getI C kX3 0 e1 rfl wd_120 rfl dX8_fewestToBreak_22 ?_
    refine v_ishl C dX8_fewestToBreak_25 ?_
    obtain ⟨e2, e3, e4, e5⟩ := h
    refine v_icmp_ge (tgt := 95) C dX8_fewestToBreak_26 (by decide) e2 e3 (fun e6 => ?_) (fun e6 => ?_)
    · have h := e4 e6
      refine v_iload_n C 3 dX8_fewestToBreak_95 rfl ?_
      exact v_iret C E dX8_fewestToBreak_96 h
    · have h := e5 e6
      refine v_iload_n C 1 dX8_fewestToBreak_29 rfl ?_
      refine v_iload C 4 dX8_fewestToBreak_30 rfl ?_
      refine v_iconst C dX8_fewestToBreak_32 ?_
      refine v_ixor C dX8_fewestToBreak_33 ?_
      refine v_iand C dX8_fewestToBreak_34 ?_
      obtain ⟨e7, e8, e9⟩ := h
      refine v_if_ne (tgt := 89) C dX8_fewestToBreak_35 (by decide) e7 (fun e10 => ?_) (fun e10 => ?_)
      · have h := e8 e10
        exact v_sub [0, 1, 2, 3, 4] rfl (t_X8_fewestToBreak_89 C E ih h)
      · have h := e9 e10
        refine v_iload C 4 dX8_fewestToBreak_38 rfl ?_
        refine v_iload_n C 2 dX8_fewestToBreak_40 rfl ?_
        refine v_ishr C dX8_fewestToBreak_41 ?_
        refine v_iconst C dX8_fewestToBreak_42 ?_
        refine v_iand C dX8_fewestToBreak_43 ?_
        obtain ⟨e11, e12, e13⟩ := h
        refine v_if_ne (tgt := 89) C dX8_fewestToBreak_44 (by decide) e11 (fun e14 => ?_) (fun e14 => ?_)
        · have h := e12 e14
          exact v_sub [0, 1, 2, 3, 4] rfl (t_X8_fewestToBreak_89 C E ih h)
        · have h := e13 e14
          refine v_aload_n C 0 dX8_fewestToBreak_47 rfl ?_
          refine v_getL1 C wd_318 dX8_fewestToBreak_48 (fun e15 => ?_)
          refine v_iload C 4 dX8_fewestToBreak_51 rfl ?_
          refine v_cVI C kX3 e15 (s_X3_waysOut G l0 e15 h) mv_X3_waysOut wd_717 ⟨by decide, by decide⟩ rfl rfl (Nat.le_of_ble_eq_true rfl) dX8_fewestToBreak_53 (fun r2 T1 h => ?_)
          refine v_istore C dX8_fewestToBreak_56 (by decide) ?_
          refine v_iload C 0 dX8_fewestToBreak_58 rfl ?_
          refine v_cSI C (s_J6_bitCount_0f7a4 G l0 h) mv_J6_bitCount_0f7a4 wd_721 ⟨by decide, by decide⟩ rfl rfl (Nat.le_of_ble_eq_true rfl) dX8_fewestToBreak_60 (fun r4 T3 h => ?_)
          refine v_iload_n C 4 dX8_fewestToBreak_63 rfl ?_
          refine v_cSI C (s_J6_bitCount_0f7a4 G l0 h) mv_J6_bitCount_0f7a4 wd_721 ⟨by decide, by decide⟩ rfl rfl (Nat.le_of_ble_eq_true rfl) dX8_fewestToBreak_64 (fun r6 T5 h => ?_)
          refine v_isub C dX8_fewestToBreak_67 ?_
          refine v_istore C dX8_fewestToBreak_68 (by decide) ?_
          have h := h _ rfl
          refine v_iload C 0 dX8_fewestToBreak_70 rfl ?_
          obtain ⟨e16, e17, e18⟩ := h
          refine v_if_lt (tgt := 86) C dX8_fewestToBreak_72 (by decide) e16 (fun e19 => ?_) (fun e19 => ?_)
          · have h := e17 e19
            exact v_sub [2, 3, 4, 6, 1] rfl (t_X8_fewestToBreak_86 C E ih h)
          · have h := e18 e19
            refine v_iload C 0 dX8_fewestToBreak_75 rfl ?_
            obtain ⟨e20, e21, e22⟩ := h
            refine v_if_ne (tgt := 89) C dX8_fewestToBreak_77 (by decide) e20 (fun e23 => ?_) (fun e23 => ?_)
            · have h := e21 e23
              exact v_sub [2, 3, 4, 5, 6] rfl (t_X8_fewestToBreak_89 C E ih h)
            · have h := e22 e23
              refine v_iload C 1 dX8_fewestToBreak_80 rfl ?_
              refine v_iload_n C 5 dX8_fewestToBreak_82 rfl ?_
              obtain ⟨e24, e25, e26, e27⟩ := h
              refine v_icmp_ge (tgt := 89) C dX8_fewestToBreak_83 (by decide) e24 e25 (fun e28 => ?_) (fun e28 => ?_)
              · have h := e26 e28
                exact v_sub [2, 3, 4, 5, 6] rfl (t_X8_fewestToBreak_89 C E ih h)
              · have h := e27 e28
                exact v_sub [2, 3, 4, 6, 1] rfl (t_X8_fewestToBreak_86 C E ih h)
set_option maxRecDepth 100000 in
theorem s_X8_fewestToBreak (G : GT) (l0 : Launch) {v1 : Int} {v2 : Int} {T : TH} {Q : Int → TH → Prop} (h : wp_X8_fewestToBreak v1 v2 T Q) : MT G l0 yX8_fewestToBreak cX8_fewestToBreak 7 (some .int) 1 28 [.ref (gad G 0), .int (zI v1), .int (zI v2)] T (QI G Q) := by
  refine mt_of G l0 (by decide) (Nat.le_of_ble_eq_true rfl) (fun X C E => ?_)
  show V G X T 0 [(0, .ref (gad G 0)), (1, .int (zI v1)), (2, .int (zI v2))] []
  unfold wp_X8_fewestToBreak at h
  refine v_iconst C dX8_fewestToBreak_0 ?_
  refine v_aload_n C 0 dX8_fewestToBreak_1 rfl ?_
  refine v_getL1 C wd_318 dX8_fewestToBreak_2 (fun e1 => ?_)
  refine v_getI C kX3 2 e1 rfl wd_131 rfl dX8_fewestToBreak_5 ?_
  refine v_ishl C dX8_fewestToBreak_8 ?_
  refine v_iconst C dX8_fewestToBreak_9 ?_
  refine v_isub C dX8_fewestToBreak_10 ?_
  refine v_istore_n C dX8_fewestToBreak_11 rfl (by decide) ?_
  have h := h _ rfl
  refine v_iconst C dX8_fewestToBreak_12 ?_
  refine v_istore C dX8_fewestToBreak_13 (by decide) ?_
  obtain ⟨n9, h⟩ := h
  exact v_sub [2, 3, 4, 1, 0] rfl (t_X8_fewestToBreak_15 C E n9 _ _ _ h)
def wp_X8_apart (v1 : Int) (v2 : Int) (v3 : Int) (T : TH) (Q : Int → TH → Prop) : Prop :=
  wp_X3_hasFact ((T 0 1 0).toNat) v1 T (fun p2 T1 => (p2 = false → (Q (-1000000001) T1)) ∧ (p2 = true → (wp_X3_hasPerson ((T1 0 1 0).toNat) v2 T1 (fun p4 T3 => (p4 = true → (zR v3 ∧ (v3 < 0 → (Q (-1000000002) T3)) ∧ (¬ (v3 < 0) → (zR v3 ∧ (v3 ≤ 1 → (wp_X2_knows 4 v2 v1 T3 (fun p6 T5 => (p6 = false → (0 ≤ v1 ∧ v1 < 8 ∧ wp_X8_fewestToBreak (T5 4 2 v1) v2 T5 (fun r8 T7 => zR v3 ∧ (¬ v3 = 0 → (Q r8 T7)) ∧ (v3 = 0 → (wp_J6_bitCount_0f7a4 r8 T7 (fun r10 T9 => Q r10 T9)))))) ∧ (p6 = true → (Q (-1000000003) T5))))) ∧ (¬ (v3 ≤ 1) → (Q (-1000000002) T3)))))) ∧ (p4 = false → (Q (-1000000001) T3))))))
set_option maxRecDepth 100000 in
theorem s_X8_apart (G : GT) (l0 : Launch) {v1 : Int} {v2 : Int} {v3 : Int} {T : TH} {Q : Int → TH → Prop} (h : wp_X8_apart v1 v2 v3 T Q) : MT G l0 yX8_apart cX8_apart 5 (some .int) 2 54 [.ref (gad G 0), .int (zI v1), .int (zI v2), .int (zI v3)] T (QI G Q) := by
  refine mt_of G l0 (by decide) (Nat.le_of_ble_eq_true rfl) (fun X C E => ?_)
  show V G X T 0 [(0, .ref (gad G 0)), (1, .int (zI v1)), (2, .int (zI v2)), (3, .int (zI v3))] []
  unfold wp_X8_apart at h
  refine v_aload_n C 0 dX8_apart_0 rfl ?_
  refine v_getL1 C wd_318 dX8_apart_1 (fun e1 => ?_)
  refine v_iload_n C 1 dX8_apart_4 rfl ?_
  refine v_cVZ C kX3 e1 (s_X3_hasFact G l0 e1 h) mv_X3_hasFact wd_489 ⟨by decide, by decide⟩ rfl rfl (Nat.le_of_ble_eq_true rfl) dX8_apart_5 (fun p2 T1 h => ?_)
  obtain ⟨e2, e3⟩ := h
  refine v_ifz_eq (tgt := 22) C dX8_apart_8 (by decide) (fun e4 => ?_) (fun e4 => ?_)
  · have h := e2 e4
    refine v_ldc (n := -1000000001) C dX8_apart_22 wd_493 (by decide) ?_
    exact v_iret C E dX8_apart_24 h
  · have h := e3 e4
    refine v_aload_n C 0 dX8_apart_11 rfl ?_
    refine v_getL1 C wd_318 dX8_apart_12 (fun e5 => ?_)
    refine v_iload_n C 2 dX8_apart_15 rfl ?_
    refine v_cVZ C kX3 e5 (s_X3_hasPerson G l0 e5 h) mv_X3_hasPerson wd_503 ⟨by decide, by decide⟩ rfl rfl (Nat.le_of_ble_eq_true rfl) dX8_apart_16 (fun p4 T3 h => ?_)
    obtain ⟨e6, e7⟩ := h
    refine v_ifz_ne (tgt := 25) C dX8_apart_19 (by decide) (fun e8 => ?_) (fun e8 => ?_)
    · have h := e6 e8
      refine v_iload_n C 3 dX8_apart_25 rfl ?_
      obtain ⟨e9, e10, e11⟩ := h
      refine v_if_lt (tgt := 34) C dX8_apart_26 (by decide) e9 (fun e12 => ?_) (fun e12 => ?_)
      · have h := e10 e12
        refine v_ldc (n := -1000000002) C dX8_apart_34 wd_358 (by decide) ?_
        exact v_iret C E dX8_apart_36 h
      · have h := e11 e12
        refine v_iload_n C 3 dX8_apart_29 rfl ?_
        refine v_iconst C dX8_apart_30 ?_
        obtain ⟨e13, e14, e15⟩ := h
        refine v_icmp_le (tgt := 37) C dX8_apart_31 (by decide) e13 ⟨by decide, by decide⟩ (fun e16 => ?_) (fun e16 => ?_)
        · have h := e14 e16
          refine v_aload_n C 0 dX8_apart_37 rfl ?_
          refine v_getC C kX8 3 rfl rfl wd_320 rfl dX8_apart_38 ?_
          refine v_iload_n C 2 dX8_apart_41 rfl ?_
          refine v_iload_n C 1 dX8_apart_42 rfl ?_
          refine v_cVZ C kX2 rfl (s_X2_knows G l0 rfl h) mv_X2_knows wd_516 ⟨by decide, by decide⟩ rfl rfl (Nat.le_of_ble_eq_true rfl) dX8_apart_43 (fun p6 T5 h => ?_)
          obtain ⟨e17, e18⟩ := h
          refine v_ifz_eq (tgt := 52) C dX8_apart_46 (by decide) (fun e19 => ?_) (fun e19 => ?_)
          · have h := e17 e19
            refine v_aload_n C 0 dX8_apart_52 rfl ?_
            refine v_aload_n C 0 dX8_apart_53 rfl ?_
            refine v_getC C kX8 3 rfl rfl wd_320 rfl dX8_apart_54 ?_
            refine v_getA C kX2 2 rfl rfl wd_218 rfl dX8_apart_57 ?_
            refine v_iload_n C 1 dX8_apart_60 rfl ?_
            obtain ⟨e20, e21, h⟩ := h
            refine v_iald C (ar_of (o := 4) rfl ar_2_2) dX8_apart_61 e20 e21 ?_
            refine v_iload_n C 2 dX8_apart_62 rfl ?_
            refine v_cVI C kX8 rfl (s_X8_fewestToBreak G l0 h) mv_X8_fewestToBreak wd_713 ⟨by decide, by decide⟩ rfl rfl (Nat.le_of_ble_eq_true rfl) dX8_apart_63 (fun r8 T7 h => ?_)
            refine v_istore C dX8_apart_66 (by decide) ?_
            refine v_iload_n C 4 dX8_apart_68 rfl ?_
            obtain ⟨e22, e23, e24⟩ := h
            refine v_if_ne (tgt := 80) C dX8_apart_69 (by decide) e22 (fun e25 => ?_) (fun e25 => ?_)
            · have h := e23 e25
              refine v_iload C 0 dX8_apart_80 rfl ?_
              exact v_iret C E dX8_apart_82 h
            · have h := e24 e25
              refine v_iload C 0 dX8_apart_72 rfl ?_
              refine v_cSI C (s_J6_bitCount_0f7a4 G l0 h) mv_J6_bitCount_0f7a4 wd_721 ⟨by decide, by decide⟩ rfl rfl (Nat.le_of_ble_eq_true rfl) dX8_apart_74 (fun r10 T9 h => ?_)
              refine v_goto (tgt := 82) C dX8_apart_77 (by decide) ?_
              exact v_iret C E dX8_apart_82 h
          · have h := e18 e19
            refine v_ldc (n := -1000000003) C dX8_apart_49 wd_548 (by decide) ?_
            exact v_iret C E dX8_apart_51 h
        · have h := e15 e16
          refine v_ldc (n := -1000000002) C dX8_apart_34 wd_358 (by decide) ?_
          exact v_iret C E dX8_apart_36 h
    · have h := e7 e8
      refine v_ldc (n := -1000000001) C dX8_apart_22 wd_493 (by decide) ?_
      exact v_iret C E dX8_apart_24 h
def wp_X8_factsToForget (v1 : Int) (v2 : Int) (T : TH) (Q : Int → TH → Prop) : Prop :=
  0 ≤ v2 ∧ v2 < 7 ∧ wp_X2_factsIn 4 v1 T (fun r2 T1 => Q (zand (zand (T (T 0 1 0).toNat 11 v2) r2) (zxor (T1 (T1 0 1 0).toNat 6 0) (-1))) T1)
set_option maxRecDepth 100000 in
theorem s_X8_factsToForget (G : GT) (l0 : Launch) {v1 : Int} {v2 : Int} {T : TH} {Q : Int → TH → Prop} (h : wp_X8_factsToForget v1 v2 T Q) : MT G l0 yX8_factsToForget cX8_factsToForget 3 (some .int) 1 23 [.ref (gad G 0), .int (zI v1), .int (zI v2)] T (QI G Q) := by
  refine mt_of G l0 (by decide) (Nat.le_of_ble_eq_true rfl) (fun X C E => ?_)
  show V G X T 0 [(0, .ref (gad G 0)), (1, .int (zI v1)), (2, .int (zI v2))] []
  unfold wp_X8_factsToForget at h
  refine v_aload_n C 0 dX8_factsToForget_0 rfl ?_
  refine v_getL1 C wd_318 dX8_factsToForget_1 (fun e1 => ?_)
  refine v_getA C kX3 11 e1 rfl wd_163 rfl dX8_factsToForget_4 ?_
  refine v_iload_n C 2 dX8_factsToForget_7 rfl ?_
  obtain ⟨e2, e3, h⟩ := h
  refine v_iald C (ar_of e1 ar_3_11) dX8_factsToForget_8 e2 e3 ?_
  refine v_aload_n C 0 dX8_factsToForget_9 rfl ?_
  refine v_getC C kX8 3 rfl rfl wd_320 rfl dX8_factsToForget_10 ?_
  refine v_iload_n C 1 dX8_factsToForget_13 rfl ?_
  refine v_cVI C kX2 rfl (s_X2_factsIn G l0 rfl h) mv_X2_factsIn wd_507 ⟨by decide, by decide⟩ rfl rfl (Nat.le_of_ble_eq_true rfl) dX8_factsToForget_14 (fun r2 T1 h => ?_)
  refine v_iand C dX8_factsToForget_17 ?_
  refine v_aload_n C 0 dX8_factsToForget_18 rfl ?_
  refine v_getL1 C wd_318 dX8_factsToForget_19 (fun e4 => ?_)
  refine v_getI C kX3 6 e4 rfl wd_146 rfl dX8_factsToForget_22 ?_
  refine v_iconst C dX8_factsToForget_25 ?_
  refine v_ixor C dX8_factsToForget_26 ?_
  refine v_iand C dX8_factsToForget_27 ?_
  exact v_iret C E dX8_factsToForget_28 h
def wp_X8_treaty (v1 : Int) (v2 : Int) (v3 : Int) (T : TH) (Q : Int → TH → Prop) : Prop :=
  wp_X3_hasPerson ((T 0 1 0).toNat) v1 T (fun p2 T1 => (p2 = false → (Q (-1000000001) T1)) ∧ (p2 = true → (wp_X3_hasPerson ((T1 0 1 0).toNat) v2 T1 (fun p4 T3 => (p4 = false → (Q (-1000000001) T3)) ∧ (p4 = true → (zR v1 ∧ zR v2 ∧ (¬ v1 = v2 → (zR v3 ∧ (v3 < 0 → (Q (-1000000002) T3)) ∧ (¬ (v3 < 0) → (zR v3 ∧ (v3 ≤ 2 → (wp_X8_factsToForget v1 v2 T3 (fun r6 T5 => wp_X8_factsToForget v2 v1 T5 (fun r8 T7 => wp_X5_agree ((T3 0 1 0).toNat) r6 r8 T7 (fun r10 T9 => zR v3 ∧ (v3 = 1 → (0 ≤ r10 ∧ r10 < 73 ∧ Q (T9 12 0 r10) T9)) ∧ (v3 = 2 → (0 ≤ r10 ∧ r10 < 73 ∧ Q (T9 12 1 r10) T9)) ∧ (¬ v3 = 1 → ¬ v3 = 2 → (Q r10 T9))))))) ∧ (¬ (v3 ≤ 2) → (Q (-1000000002) T3)))))) ∧ (v1 = v2 → (Q (-1000000001) T3))))))))
set_option maxRecDepth 100000 in
theorem s_X8_treaty (G : GT) (l0 : Launch) {v1 : Int} {v2 : Int} {v3 : Int} {T : TH} {Q : Int → TH → Prop} (h : wp_X8_treaty v1 v2 v3 T Q) : MT G l0 yX8_treaty cX8_treaty 5 (some .int) 4 101 [.ref (gad G 0), .int (zI v1), .int (zI v2), .int (zI v3)] T (QI G Q) := by
  refine mt_of G l0 (by decide) (Nat.le_of_ble_eq_true rfl) (fun X C E => ?_)
  show V G X T 0 [(0, .ref (gad G 0)), (1, .int (zI v1)), (2, .int (zI v2)), (3, .int (zI v3))] []
  unfold wp_X8_treaty at h
  refine v_aload_n C 0 dX8_treaty_0 rfl ?_
  refine v_getL1 C wd_318 dX8_treaty_1 (fun e1 => ?_)
  refine v_iload_n C 1 dX8_treaty_4 rfl ?_
  refine v_cVZ C kX3 e1 (s_X3_hasPerson G l0 e1 h) mv_X3_hasPerson wd_503 ⟨by decide, by decide⟩ rfl rfl (Nat.le_of_ble_eq_true rfl) dX8_treaty_5 (fun p2 T1 h => ?_)
  obtain ⟨e2, e3⟩ := h
  refine v_ifz_eq (tgt := 27) C dX8_treaty_8 (by decide) (fun e4 => ?_) (fun e4 => ?_)
  · have h := e2 e4
    refine v_ldc (n := -1000000001) C dX8_treaty_27 wd_493 (by decide) ?_
    exact v_iret C E dX8_treaty_29 h
  · have h := e3 e4
    refine v_aload_n C 0 dX8_treaty_11 rfl ?_
    refine v_getL1 C wd_318 dX8_treaty_12 (fun e5 => ?_)
    refine v_iload_n C 2 dX8_treaty_15 rfl ?_
    refine v_cVZ C kX3 e5 (s_X3_hasPerson G l0 e5 h) mv_X3_hasPerson wd_503 ⟨by decide, by decide⟩ rfl rfl (Nat.le_of_ble_eq_true rfl) dX8_treaty_16 (fun p4 T3 h => ?_)
    obtain ⟨e6, e7⟩ := h
    refine v_ifz_eq (tgt := 27) C dX8_treaty_19 (by decide) (fun e8 => ?_) (fun e8 => ?_)
    · have h := e6 e8
      refine v_ldc (n := -1000000001) C dX8_treaty_27 wd_493 (by decide) ?_
      exact v_iret C E dX8_treaty_29 h
    · have h := e7 e8
      refine v_iload_n C 1 dX8_treaty_22 rfl ?_
      refine v_iload_n C 2 dX8_treaty_23 rfl ?_
      obtain ⟨e9, e10, e11, e12⟩ := h
      refine v_icmp_ne (tgt := 30) C dX8_treaty_24 (by decide) e9 e10 (fun e13 => ?_) (fun e13 => ?_)
      · have h := e11 e13
        refine v_iload_n C 3 dX8_treaty_30 rfl ?_
        obtain ⟨e14, e15, e16⟩ := h
        refine v_if_lt (tgt := 39) C dX8_treaty_31 (by decide) e14 (fun e17 => ?_) (fun e17 => ?_)
        · have h := e15 e17
          refine v_ldc (n := -1000000002) C dX8_treaty_39 wd_358 (by decide) ?_
          exact v_iret C E dX8_treaty_41 h
        · have h := e16 e17
          refine v_iload_n C 3 dX8_treaty_34 rfl ?_
          refine v_iconst C dX8_treaty_35 ?_
          obtain ⟨e18, e19, e20⟩ := h
          refine v_icmp_le (tgt := 42) C dX8_treaty_36 (by decide) e18 ⟨by decide, by decide⟩ (fun e21 => ?_) (fun e21 => ?_)
          · have h := e19 e21
            refine v_aload_n C 0 dX8_treaty_42 rfl ?_
            refine v_getC C kX8 11 rfl rfl wd_328 rfl dX8_treaty_43 ?_
            refine v_aload_n C 0 dX8_treaty_46 rfl ?_
            refine v_getL1 C wd_318 dX8_treaty_47 (fun e22 => ?_)
            refine v_aload_n C 0 dX8_treaty_50 rfl ?_
            refine v_iload_n C 1 dX8_treaty_51 rfl ?_
            refine v_iload_n C 2 dX8_treaty_52 rfl ?_
            refine v_cVI C kX8 rfl (s_X8_factsToForget G l0 h) mv_X8_factsToForget wd_726 ⟨by decide, by decide⟩ rfl rfl (Nat.le_of_ble_eq_true rfl) dX8_treaty_53 (fun r6 T5 h => ?_)
            refine v_aload_n C 0 dX8_treaty_56 rfl ?_
            refine v_iload_n C 2 dX8_treaty_57 rfl ?_
            refine v_iload_n C 1 dX8_treaty_58 rfl ?_
            refine v_cVI C kX8 rfl (s_X8_factsToForget G l0 h) mv_X8_factsToForget wd_726 ⟨by decide, by decide⟩ rfl rfl (Nat.le_of_ble_eq_true rfl) dX8_treaty_59 (fun r8 T7 h => ?_)
            refine v_cVI C kX5 rfl (s_X5_agree G l0 e22 h) mv_X5_agree wd_730 ⟨by decide, by decide⟩ rfl rfl (Nat.le_of_ble_eq_true rfl) dX8_treaty_62 (fun r10 T9 h => ?_)
            refine v_istore C dX8_treaty_65 (by decide) ?_
            refine v_iload_n C 4 dX8_treaty_67 rfl ?_
            obtain ⟨e23, h⟩ := h
            obtain ⟨e28, e29, e30⟩ := h
            by_cases e31 : v3 = 1
            · have h := e28 e31
              refine v_look (off := 28) (tgt := 96) C dX8_treaty_68 e23 (by decide) (by rw [e31]; decide) (by decide) ?_
              refine v_aload_n C 1 dX8_treaty_96 rfl ?_
              refine v_getC C kX8 11 rfl rfl wd_328 rfl dX8_treaty_97 ?_
              refine v_getA C kX5 0 rfl rfl wd_309 rfl dX8_treaty_100 ?_
              refine v_iload C 0 dX8_treaty_103 rfl ?_
              obtain ⟨e24, e25, h⟩ := h
              refine v_iald C (ar_of (o := 12) rfl ar_5_0) dX8_treaty_105 e24 e25 ?_
              exact v_iret C E dX8_treaty_106 h
            by_cases e32 : v3 = 2
            · have h := e29 e32
              refine v_look (off := 39) (tgt := 107) C dX8_treaty_68 e23 (by decide) (by rw [e32]; decide) (by decide) ?_
              refine v_aload_n C 1 dX8_treaty_107 rfl ?_
              refine v_getC C kX8 11 rfl rfl wd_328 rfl dX8_treaty_108 ?_
              refine v_getA C kX5 1 rfl rfl wd_311 rfl dX8_treaty_111 ?_
              refine v_iload C 0 dX8_treaty_114 rfl ?_
              obtain ⟨e26, e27, h⟩ := h
              refine v_iald C (ar_of (o := 12) rfl ar_5_1) dX8_treaty_116 e26 e27 ?_
              exact v_iret C E dX8_treaty_117 h
            have h := e30 e31 e32
            refine v_look (off := 50) (tgt := 118) C dX8_treaty_68 e23 (by decide) (by show Op.lookupswitch.offset [(1, 28), (2, 39)] _ _ = _; rw [Op.lookupswitch.offset_cons, if_neg (fun z => e31 z.symm)]; rw [Op.lookupswitch.offset_cons, if_neg (fun z => e32 z.symm)]; rfl) (by decide) ?_
            refine v_iload C 0 dX8_treaty_118 rfl ?_
            exact v_iret C E dX8_treaty_120 h
          · have h := e20 e21
            refine v_ldc (n := -1000000002) C dX8_treaty_39 wd_358 (by decide) ?_
            exact v_iret C E dX8_treaty_41 h
      · have h := e12 e13
        refine v_ldc (n := -1000000001) C dX8_treaty_27 wd_493 (by decide) ?_
        exact v_iret C E dX8_treaty_29 h
def wp_X8_odds (v1 : Int) (v2 : Int) (v3 : Int) (T : TH) (Q : Int → TH → Prop) : Prop :=
  wp_X3_hasPerson ((T 0 1 0).toNat) v1 T (fun p2 T1 => (p2 = false → (Q (-1000000001) T1)) ∧ (p2 = true → (wp_X3_hasBridge ((T1 0 1 0).toNat) v2 T1 (fun p4 T3 => (p4 = true → (zR v3 ∧ (v3 < 0 → (Q (-1000000002) T3)) ∧ (¬ (v3 < 0) → (zR v3 ∧ (v3 ≤ 100 → (wp_X0_spread ((T3 0 1 0).toNat) 4 v1 v3 T3 (fun T5 => 0 ≤ v2 ∧ v2 < 4 ∧ wp_X0_upTo (T5 (T5 0 1 0).toNat 15 v2) T5 (fun r7 T6 => Q r7 T6)))) ∧ (¬ (v3 ≤ 100) → (Q (-1000000002) T3)))))) ∧ (p4 = false → (Q (-1000000001) T3))))))
set_option maxRecDepth 100000 in
theorem s_X8_odds (G : GT) (l0 : Launch) {v1 : Int} {v2 : Int} {v3 : Int} {T : TH} {Q : Int → TH → Prop} (h : wp_X8_odds v1 v2 v3 T Q) : MT G l0 yX8_odds cX8_odds 4 (some .int) 4 94 [.ref (gad G 0), .int (zI v1), .int (zI v2), .int (zI v3)] T (QI G Q) := by
  refine mt_of G l0 (by decide) (Nat.le_of_ble_eq_true rfl) (fun X C E => ?_)
  show V G X T 0 [(0, .ref (gad G 0)), (1, .int (zI v1)), (2, .int (zI v2)), (3, .int (zI v3))] []
  unfold wp_X8_odds at h
  refine v_aload_n C 0 dX8_odds_0 rfl ?_
  refine v_getL1 C wd_318 dX8_odds_1 (fun e1 => ?_)
  refine v_iload_n C 1 dX8_odds_4 rfl ?_
  refine v_cVZ C kX3 e1 (s_X3_hasPerson G l0 e1 h) mv_X3_hasPerson wd_503 ⟨by decide, by decide⟩ rfl rfl (Nat.le_of_ble_eq_true rfl) dX8_odds_5 (fun p2 T1 h => ?_)
  obtain ⟨e2, e3⟩ := h
  refine v_ifz_eq (tgt := 22) C dX8_odds_8 (by decide) (fun e4 => ?_) (fun e4 => ?_)
  · have h := e2 e4
    refine v_ldc (n := -1000000001) C dX8_odds_22 wd_493 (by decide) ?_
    exact v_iret C E dX8_odds_24 h
  · have h := e3 e4
    refine v_aload_n C 0 dX8_odds_11 rfl ?_
    refine v_getL1 C wd_318 dX8_odds_12 (fun e5 => ?_)
    refine v_iload_n C 2 dX8_odds_15 rfl ?_
    refine v_cVZ C kX3 e5 (s_X3_hasBridge G l0 e5 h) mv_X3_hasBridge wd_540 ⟨by decide, by decide⟩ rfl rfl (Nat.le_of_ble_eq_true rfl) dX8_odds_16 (fun p4 T3 h => ?_)
    obtain ⟨e6, e7⟩ := h
    refine v_ifz_ne (tgt := 25) C dX8_odds_19 (by decide) (fun e8 => ?_) (fun e8 => ?_)
    · have h := e6 e8
      refine v_iload_n C 3 dX8_odds_25 rfl ?_
      obtain ⟨e9, e10, e11⟩ := h
      refine v_if_lt (tgt := 35) C dX8_odds_26 (by decide) e9 (fun e12 => ?_) (fun e12 => ?_)
      · have h := e10 e12
        refine v_ldc (n := -1000000002) C dX8_odds_35 wd_358 (by decide) ?_
        exact v_iret C E dX8_odds_37 h
      · have h := e11 e12
        refine v_iload_n C 3 dX8_odds_29 rfl ?_
        refine v_bipush C dX8_odds_30 (by decide) ?_
        obtain ⟨e13, e14, e15⟩ := h
        refine v_icmp_le (tgt := 38) C dX8_odds_32 (by decide) e13 ⟨by decide, by decide⟩ (fun e16 => ?_) (fun e16 => ?_)
        · have h := e14 e16
          refine v_aload_n C 0 dX8_odds_38 rfl ?_
          refine v_getC C kX8 10 rfl rfl wd_327 rfl dX8_odds_39 ?_
          refine v_aload_n C 0 dX8_odds_42 rfl ?_
          refine v_getL1 C wd_318 dX8_odds_43 (fun e17 => ?_)
          refine v_aload_n C 0 dX8_odds_46 rfl ?_
          refine v_getC C kX8 3 rfl rfl wd_320 rfl dX8_odds_47 ?_
          refine v_iload_n C 1 dX8_odds_50 rfl ?_
          refine v_iload_n C 3 dX8_odds_51 rfl ?_
          refine v_cVN C kX0 rfl (s_X0_spread G l0 e17 rfl h) mv_X0_spread wd_746 ⟨by decide, by decide⟩ rfl rfl (Nat.le_of_ble_eq_true rfl) dX8_odds_52 (fun T5 h => ?_)
          refine v_aload_n C 0 dX8_odds_55 rfl ?_
          refine v_getC C kX8 10 rfl rfl wd_327 rfl dX8_odds_56 ?_
          refine v_aload_n C 0 dX8_odds_59 rfl ?_
          refine v_getL1 C wd_318 dX8_odds_60 (fun e18 => ?_)
          refine v_getA C kX3 15 e18 rfl wd_172 rfl dX8_odds_63 ?_
          refine v_iload_n C 2 dX8_odds_66 rfl ?_
          obtain ⟨e19, e20, h⟩ := h
          refine v_iald C (ar_of e18 ar_3_15) dX8_odds_67 e19 e20 ?_
          refine v_cVI C kX0 rfl (s_X0_upTo G l0 h) mv_X0_upTo wd_768 ⟨by decide, by decide⟩ rfl rfl (Nat.le_of_ble_eq_true rfl) dX8_odds_68 (fun r7 T6 h => ?_)
          exact v_iret C E dX8_odds_71 h
        · have h := e15 e16
          refine v_ldc (n := -1000000002) C dX8_odds_35 wd_358 (by decide) ?_
          exact v_iret C E dX8_odds_37 h
    · have h := e7 e8
      refine v_ldc (n := -1000000001) C dX8_odds_22 wd_493 (by decide) ?_
      exact v_iret C E dX8_odds_24 h
def wp_X8_write (v1 : Int) (v2 : Int) (T : TH) (Q : Int → TH → Prop) : Prop :=
  wp_X3_hasPerson ((T 0 1 0).toNat) v1 T (fun p2 T1 => (p2 = true → (wp_X8_canWeigh v2 T1 (fun p4 T3 => (p4 = true → (wp_X6_add v1 v2 T3 (fun r6 T5 => Q r6 T5))) ∧ (p4 = false → (Q (-1000000002) T3))))) ∧ (p2 = false → (Q (-1000000001) T1)))
set_option maxRecDepth 100000 in
theorem s_X8_write (G : GT) (l0 : Launch) {v1 : Int} {v2 : Int} {T : TH} {Q : Int → TH → Prop} (h : wp_X8_write v1 v2 T Q) : MT G l0 yX8_write cX8_write 3 (some .int) 1 22 [.ref (gad G 0), .int (zI v1), .int (zI v2)] T (QI G Q) := by
  refine mt_of G l0 (by decide) (Nat.le_of_ble_eq_true rfl) (fun X C E => ?_)
  show V G X T 0 [(0, .ref (gad G 0)), (1, .int (zI v1)), (2, .int (zI v2))] []
  unfold wp_X8_write at h
  refine v_aload_n C 0 dX8_write_0 rfl ?_
  refine v_getL1 C wd_318 dX8_write_1 (fun e1 => ?_)
  refine v_iload_n C 1 dX8_write_4 rfl ?_
  refine v_cVZ C kX3 e1 (s_X3_hasPerson G l0 e1 h) mv_X3_hasPerson wd_503 ⟨by decide, by decide⟩ rfl rfl (Nat.le_of_ble_eq_true rfl) dX8_write_5 (fun p2 T1 h => ?_)
  obtain ⟨e2, e3⟩ := h
  refine v_ifz_ne (tgt := 14) C dX8_write_8 (by decide) (fun e4 => ?_) (fun e4 => ?_)
  · have h := e2 e4
    refine v_iload_n C 2 dX8_write_14 rfl ?_
    refine v_cSZ C (s_X8_canWeigh G l0 h) mv_X8_canWeigh wd_670 ⟨by decide, by decide⟩ rfl rfl (Nat.le_of_ble_eq_true rfl) dX8_write_15 (fun p4 T3 h => ?_)
    obtain ⟨e5, e6⟩ := h
    refine v_ifz_ne (tgt := 24) C dX8_write_18 (by decide) (fun e7 => ?_) (fun e7 => ?_)
    · have h := e5 e7
      refine v_aload_n C 0 dX8_write_24 rfl ?_
      refine v_getC C kX8 7 rfl rfl wd_324 rfl dX8_write_25 ?_
      refine v_iload_n C 1 dX8_write_28 rfl ?_
      refine v_iload_n C 2 dX8_write_29 rfl ?_
      refine v_cVI C kX6 rfl (s_X6_add G l0 h) mv_X6_add wd_776 ⟨by decide, by decide⟩ rfl rfl (Nat.le_of_ble_eq_true rfl) dX8_write_30 (fun r6 T5 h => ?_)
      exact v_iret C E dX8_write_33 h
    · have h := e6 e7
      refine v_ldc (n := -1000000002) C dX8_write_21 wd_358 (by decide) ?_
      exact v_iret C E dX8_write_23 h
  · have h := e3 e4
    refine v_ldc (n := -1000000001) C dX8_write_11 wd_493 (by decide) ?_
    exact v_iret C E dX8_write_13 h
def wp_X8_tear (T : TH) (Q : Int → TH → Prop) : Prop :=
  ∀ w1 : Int, w1 = (T 8 0 0) → ∀ T2 : TH, T2 = up T 8 0 0 0 → Q w1 T2
set_option maxRecDepth 100000 in
theorem s_X8_tear (G : GT) (l0 : Launch) {T : TH} {Q : Int → TH → Prop} (h : wp_X8_tear T Q) : MT G l0 yX8_tear cX8_tear 2 (some .int) 0 0 [.ref (gad G 0)] T (QI G Q) := by
  refine mt_of G l0 (by decide) (Nat.le_of_ble_eq_true rfl) (fun X C E => ?_)
  show V G X T 0 [(0, .ref (gad G 0))] []
  unfold wp_X8_tear at h
  refine v_aload_n C 0 dX8_tear_0 rfl ?_
  refine v_getC C kX8 7 rfl rfl wd_324 rfl dX8_tear_1 ?_
  refine v_getI C kX6 0 rfl rfl wd_240 rfl dX8_tear_4 ?_
  refine v_istore_n C dX8_tear_7 rfl (by decide) ?_
  have h := h _ rfl
  refine v_aload_n C 1 dX8_tear_8 rfl ?_
  refine v_getC C kX8 7 rfl rfl wd_324 rfl dX8_tear_9 ?_
  refine v_iconst C dX8_tear_12 ?_
  refine v_putI C kX6 0 rfl rfl wd_240 rfl rfl (tyX6_ok 0 (by decide)) dX8_tear_13 ?_
  have h := h _ rfl
  refine v_iload_n C 0 dX8_tear_16 rfl ?_
  exact v_iret C E dX8_tear_17 h
def wp_X8_judge (T : TH) (Q : Int → TH → Prop) : Prop :=
  wp_X6_firstWrong ((T 0 1 0).toNat) 4 T (fun r2 T1 => Q r2 T1)
set_option maxRecDepth 100000 in
theorem s_X8_judge (G : GT) (l0 : Launch) {T : TH} {Q : Int → TH → Prop} (h : wp_X8_judge T Q) : MT G l0 yX8_judge cX8_judge 1 (some .int) 5 112 [.ref (gad G 0)] T (QI G Q) := by
  refine mt_of G l0 (by decide) (Nat.le_of_ble_eq_true rfl) (fun X C E => ?_)
  show V G X T 0 [(0, .ref (gad G 0))] []
  unfold wp_X8_judge at h
  refine v_aload_n C 0 dX8_judge_0 rfl ?_
  refine v_getC C kX8 7 rfl rfl wd_324 rfl dX8_judge_1 ?_
  refine v_aload_n C 0 dX8_judge_4 rfl ?_
  refine v_getL1 C wd_318 dX8_judge_5 (fun e1 => ?_)
  refine v_aload_n C 0 dX8_judge_8 rfl ?_
  refine v_getC C kX8 3 rfl rfl wd_320 rfl dX8_judge_9 ?_
  refine v_cVI C kX6 rfl (s_X6_firstWrong G l0 e1 rfl h) mv_X6_firstWrong wd_789 ⟨by decide, by decide⟩ rfl rfl (Nat.le_of_ble_eq_true rfl) dX8_judge_12 (fun r2 T1 h => ?_)
  exact v_iret C E dX8_judge_15 h
def wp_X8_seed (v1 : Int) (T : TH) (Q : Int → TH → Prop) : Prop :=
  zR v1 ∧ (0 ≤ v1 → (∀ w1 : Int, w1 = (T 4 1 0) → ∀ T2 : TH, T2 = up T 4 1 0 v1 → Q w1 T2)) ∧ (¬ (0 ≤ v1) → (Q (-1000000002) T))
set_option maxRecDepth 100000 in
theorem s_X8_seed (G : GT) (l0 : Launch) {v1 : Int} {T : TH} {Q : Int → TH → Prop} (h : wp_X8_seed v1 T Q) : MT G l0 yX8_seed cX8_seed 3 (some .int) 0 0 [.ref (gad G 0), .int (zI v1)] T (QI G Q) := by
  refine mt_of G l0 (by decide) (Nat.le_of_ble_eq_true rfl) (fun X C E => ?_)
  show V G X T 0 [(0, .ref (gad G 0)), (1, .int (zI v1))] []
  unfold wp_X8_seed at h
  refine v_iload_n C 1 dX8_seed_0 rfl ?_
  obtain ⟨e1, e2, e3⟩ := h
  refine v_if_ge (tgt := 7) C dX8_seed_1 (by decide) e1 (fun e4 => ?_) (fun e4 => ?_)
  · have h := e2 e4
    refine v_aload_n C 0 dX8_seed_7 rfl ?_
    refine v_getC C kX8 3 rfl rfl wd_320 rfl dX8_seed_8 ?_
    refine v_getI C kX2 1 rfl rfl wd_216 rfl dX8_seed_11 ?_
    refine v_istore_n C dX8_seed_14 rfl (by decide) ?_
    have h := h _ rfl
    refine v_aload_n C 1 dX8_seed_15 rfl ?_
    refine v_getC C kX8 3 rfl rfl wd_320 rfl dX8_seed_16 ?_
    refine v_iload_n C 2 dX8_seed_19 rfl ?_
    refine v_putI C kX2 1 rfl rfl wd_216 rfl rfl (tyX2_ok 1 (by decide)) dX8_seed_20 ?_
    have h := h _ rfl
    refine v_iload_n C 0 dX8_seed_23 rfl ?_
    exact v_iret C E dX8_seed_24 h
  · have h := e3 e4
    refine v_ldc (n := -1000000002) C dX8_seed_4 wd_358 (by decide) ?_
    exact v_iret C E dX8_seed_6 h
def wp_X8_keep (v1 : Int) (T : TH) (Q : Int → TH → Prop) : Prop :=
  zR v1 ∧ (v1 < 0 → (Q (-1000000001) T)) ∧ (¬ (v1 < 0) → (zR v1 ∧ (v1 < 2 → (0 ≤ v1 ∧ v1 < 2 ∧ wp_X2_copyFrom (6 + (v1).toNat) 4 T (fun T1 => ∀ T2 : TH, T2 = up T1 0 6 0 (zor (T1 0 6 0) (zshl 1 v1)) → Q 1 T2))) ∧ (¬ (v1 < 2) → (Q (-1000000001) T))))
set_option maxRecDepth 100000 in
theorem s_X8_keep (G : GT) (l0 : Launch) {v1 : Int} {T : TH} {Q : Int → TH → Prop} (h : wp_X8_keep v1 T Q) : MT G l0 yX8_keep cX8_keep 2 (some .int) 2 51 [.ref (gad G 0), .int (zI v1)] T (QI G Q) := by
  refine mt_of G l0 (by decide) (Nat.le_of_ble_eq_true rfl) (fun X C E => ?_)
  show V G X T 0 [(0, .ref (gad G 0)), (1, .int (zI v1))] []
  unfold wp_X8_keep at h
  refine v_iload_n C 1 dX8_keep_0 rfl ?_
  obtain ⟨e1, e2, e3⟩ := h
  refine v_if_lt (tgt := 9) C dX8_keep_1 (by decide) e1 (fun e4 => ?_) (fun e4 => ?_)
  · have h := e2 e4
    refine v_ldc (n := -1000000001) C dX8_keep_9 wd_493 (by decide) ?_
    exact v_iret C E dX8_keep_11 h
  · have h := e3 e4
    refine v_iload_n C 1 dX8_keep_4 rfl ?_
    refine v_iconst C dX8_keep_5 ?_
    obtain ⟨e5, e6, e7⟩ := h
    refine v_icmp_lt (tgt := 12) C dX8_keep_6 (by decide) e5 ⟨by decide, by decide⟩ (fun e8 => ?_) (fun e8 => ?_)
    · have h := e6 e8
      refine v_aload_n C 0 dX8_keep_12 rfl ?_
      refine v_getA C kX8 5 rfl rfl wd_322 rfl dX8_keep_13 ?_
      refine v_iload_n C 1 dX8_keep_16 rfl ?_
      obtain ⟨e9, e10, h⟩ := h
      refine v_aald C dX8_keep_17 e9 e10 (fun e11 => ?_)
      refine v_aload_n C 0 dX8_keep_18 rfl ?_
      refine v_getC C kX8 3 rfl rfl wd_320 rfl dX8_keep_19 ?_
      refine v_cVN C kX2 e11 (s_X2_copyFrom G l0 e11 rfl h) mv_X2_copyFrom wd_612 ⟨by decide, by decide⟩ rfl rfl (Nat.le_of_ble_eq_true rfl) dX8_keep_22 (fun T1 h => ?_)
      refine v_aload_n C 0 dX8_keep_25 rfl ?_
      refine v_dup C dX8_keep_26 rfl ?_
      refine v_getI C kX8 6 rfl rfl wd_323 rfl dX8_keep_27 ?_
      refine v_iconst C dX8_keep_30 ?_
      refine v_iload_n C 1 dX8_keep_31 rfl ?_
      refine v_ishl C dX8_keep_32 ?_
      refine v_ior C dX8_keep_33 ?_
      refine v_putI C kX8 6 rfl rfl wd_323 rfl rfl (tyX8_ok 6 (by decide)) dX8_keep_34 ?_
      have h := h _ rfl
      refine v_iconst C dX8_keep_37 ?_
      exact v_iret C E dX8_keep_38 h
    · have h := e7 e8
      refine v_ldc (n := -1000000001) C dX8_keep_9 wd_493 (by decide) ?_
      exact v_iret C E dX8_keep_11 h
def wp_X8_goBack (v1 : Int) (T : TH) (Q : Int → TH → Prop) : Prop :=
  zR v1 ∧ (v1 < 0 → (Q (-1000000001) T)) ∧ (¬ (v1 < 0) → (zR v1 ∧ (v1 < 2 → (zR (zand (zshr (T 0 6 0) v1) 1) ∧ (¬ (zand (zshr (T 0 6 0) v1) 1) = 0 → (0 ≤ v1 ∧ v1 < 2 ∧ wp_X2_copyFrom 4 (6 + (v1).toNat) T (fun T1 => Q 1 T1))) ∧ ((zand (zshr (T 0 6 0) v1) 1) = 0 → (Q (-1000000003) T)))) ∧ (¬ (v1 < 2) → (Q (-1000000001) T))))
set_option maxRecDepth 100000 in
theorem s_X8_goBack (G : GT) (l0 : Launch) {v1 : Int} {T : TH} {Q : Int → TH → Prop} (h : wp_X8_goBack v1 T Q) : MT G l0 yX8_goBack cX8_goBack 2 (some .int) 2 51 [.ref (gad G 0), .int (zI v1)] T (QI G Q) := by
  refine mt_of G l0 (by decide) (Nat.le_of_ble_eq_true rfl) (fun X C E => ?_)
  show V G X T 0 [(0, .ref (gad G 0)), (1, .int (zI v1))] []
  unfold wp_X8_goBack at h
  refine v_iload_n C 1 dX8_goBack_0 rfl ?_
  obtain ⟨e1, e2, e3⟩ := h
  refine v_if_lt (tgt := 9) C dX8_goBack_1 (by decide) e1 (fun e4 => ?_) (fun e4 => ?_)
  · have h := e2 e4
    refine v_ldc (n := -1000000001) C dX8_goBack_9 wd_493 (by decide) ?_
    exact v_iret C E dX8_goBack_11 h
  · have h := e3 e4
    refine v_iload_n C 1 dX8_goBack_4 rfl ?_
    refine v_iconst C dX8_goBack_5 ?_
    obtain ⟨e5, e6, e7⟩ := h
    refine v_icmp_lt (tgt := 12) C dX8_goBack_6 (by decide) e5 ⟨by decide, by decide⟩ (fun e8 => ?_) (fun e8 => ?_)
    · have h := e6 e8
      refine v_aload_n C 0 dX8_goBack_12 rfl ?_
      refine v_getI C kX8 6 rfl rfl wd_323 rfl dX8_goBack_13 ?_
      refine v_iload_n C 1 dX8_goBack_16 rfl ?_
      refine v_ishr C dX8_goBack_17 ?_
      refine v_iconst C dX8_goBack_18 ?_
      refine v_iand C dX8_goBack_19 ?_
      obtain ⟨e9, e10, e11⟩ := h
      refine v_if_ne (tgt := 26) C dX8_goBack_20 (by decide) e9 (fun e12 => ?_) (fun e12 => ?_)
      · have h := e10 e12
        refine v_aload_n C 0 dX8_goBack_26 rfl ?_
        refine v_getC C kX8 3 rfl rfl wd_320 rfl dX8_goBack_27 ?_
        refine v_aload_n C 0 dX8_goBack_30 rfl ?_
        refine v_getA C kX8 5 rfl rfl wd_322 rfl dX8_goBack_31 ?_
        refine v_iload_n C 1 dX8_goBack_34 rfl ?_
        obtain ⟨e13, e14, h⟩ := h
        refine v_aald C dX8_goBack_35 e13 e14 (fun e15 => ?_)
        refine v_cVN C kX2 rfl (s_X2_copyFrom G l0 rfl e15 h) mv_X2_copyFrom wd_612 ⟨by decide, by decide⟩ rfl rfl (Nat.le_of_ble_eq_true rfl) dX8_goBack_36 (fun T1 h => ?_)
        refine v_iconst C dX8_goBack_39 ?_
        exact v_iret C E dX8_goBack_40 h
      · have h := e11 e12
        refine v_ldc (n := -1000000003) C dX8_goBack_23 wd_548 (by decide) ?_
        exact v_iret C E dX8_goBack_25 h
    · have h := e7 e8
      refine v_ldc (n := -1000000001) C dX8_goBack_9 wd_493 (by decide) ?_
      exact v_iret C E dX8_goBack_11 h
