def wp_X9_in (v0 : Int) (v1 : Int) (v2 : Int) (T : TH) (Q : Bool → TH → Prop) : Prop :=
  zR v0 ∧ zR v1 ∧ (v0 < v1 → (Q false T)) ∧ (¬ (v0 < v1) → (zR v0 ∧ zR v2 ∧ (v2 < v0 → (Q false T)) ∧ (¬ (v2 < v0) → (Q true T))))
set_option maxRecDepth 100000 in
theorem s_X9_in (G : GT) (l0 : Launch) {v0 : Int} {v1 : Int} {v2 : Int} {T : TH} {Q : Bool → TH → Prop} (h : wp_X9_in v0 v1 v2 T Q) : MT G l0 yX9_in cX9_in 3 (some .boolean) 0 0 [.int (zI v0), .int (zI v1), .int (zI v2)] T (QZ G Q) := by
  refine mt_of G l0 (by decide) (Nat.le_of_ble_eq_true rfl) (fun X C E => ?_)
  show V G X T 0 [(0, .int (zI v0)), (1, .int (zI v1)), (2, .int (zI v2))] []
  unfold wp_X9_in at h
  refine v_iload_n C 0 dX9_in_0 rfl ?_
  refine v_iload_n C 1 dX9_in_1 rfl ?_
  obtain ⟨e1, e2, e3, e4⟩ := h
  refine v_icmp_lt (tgt := 14) C dX9_in_2 (by decide) e1 e2 (fun e5 => ?_) (fun e5 => ?_)
  · have h := e3 e5
    refine v_iconst C dX9_in_14 ?_
    exact v_zret (z := false) C E dX9_in_15 h
  · have h := e4 e5
    refine v_iload_n C 0 dX9_in_5 rfl ?_
    refine v_iload_n C 2 dX9_in_6 rfl ?_
    obtain ⟨e6, e7, e8, e9⟩ := h
    refine v_icmp_gt (tgt := 14) C dX9_in_7 (by decide) e6 e7 (fun e10 => ?_) (fun e10 => ?_)
    · have h := e8 e10
      refine v_iconst C dX9_in_14 ?_
      exact v_zret (z := false) C E dX9_in_15 h
    · have h := e9 e10
      refine v_iconst C dX9_in_10 ?_
      refine v_goto (tgt := 15) C dX9_in_11 (by decide) ?_
      exact v_zret (z := true) C E dX9_in_15 h
def wp_X9_has (v0 : Int) (v1 : Int) (T : TH) (Q : Bool → TH → Prop) : Prop :=
  zR (zand (zshr v0 v1) 1) ∧ (¬ (zand (zshr v0 v1) 1) = 1 → (Q false T)) ∧ ((zand (zshr v0 v1) 1) = 1 → (Q true T))
set_option maxRecDepth 100000 in
theorem s_X9_has (G : GT) (l0 : Launch) {v0 : Int} {v1 : Int} {T : TH} {Q : Bool → TH → Prop} (h : wp_X9_has v0 v1 T Q) : MT G l0 yX9_has cX9_has 2 (some .boolean) 0 0 [.int (zI v0), .int (zI v1)] T (QZ G Q) := by
  refine mt_of G l0 (by decide) (Nat.le_of_ble_eq_true rfl) (fun X C E => ?_)
  show V G X T 0 [(0, .int (zI v0)), (1, .int (zI v1))] []
  unfold wp_X9_has at h
  refine v_iload_n C 0 dX9_has_0 rfl ?_
  refine v_iload_n C 1 dX9_has_1 rfl ?_
  refine v_ishr C dX9_has_2 ?_
  refine v_iconst C dX9_has_3 ?_
  refine v_iand C dX9_has_4 ?_
  refine v_iconst C dX9_has_5 ?_
  obtain ⟨e1, e2, e3⟩ := h
  refine v_icmp_ne (tgt := 13) C dX9_has_6 (by decide) e1 ⟨by decide, by decide⟩ (fun e4 => ?_) (fun e4 => ?_)
  · have h := e2 e4
    refine v_iconst C dX9_has_13 ?_
    exact v_zret (z := false) C E dX9_has_14 h
  · have h := e3 e4
    refine v_iconst C dX9_has_9 ?_
    refine v_goto (tgt := 14) C dX9_has_10 (by decide) ?_
    exact v_zret (z := true) C E dX9_has_14 h
def h_X9_begin_2 (Q : TH → Prop) : Nat → Int → TH → Prop
  | 0, _, _ => False
  | n + 1, v1, T => zR v1 ∧ (56 ≤ v1 → (∀ T1 : TH, T1 = up T 13 26 56 0 → ∀ T2 : TH, T2 = up T1 13 30 0 0 → ∀ T3 : TH, T3 = up T2 13 30 1 0 → ∀ T4 : TH, T4 = up T3 13 31 0 0 → Q T4)) ∧ (¬ (56 ≤ v1) → (0 ≤ v1 ∧ v1 < 58 ∧ ∀ T5 : TH, T5 = up T 13 26 v1 (-1) → (h_X9_begin_2 Q n) (v1 + 1) T5))
def wp_X9_begin (T : TH) (Q : TH → Prop) : Prop :=
  (∃ m9 : Nat, h_X9_begin_2 Q m9 0 T)
set_option maxRecDepth 100000 in
theorem t_X9_begin_2 {G : GT} {l0 : Launch} {X : CX} (C : CT G l0 X cX9_begin 2 RX9 (rM 0 0)) {Q : TH → Prop} (E : EN G X none (QV G Q)) : ∀ (n : Nat) (v1 : Int) (T : TH), h_X9_begin_2 Q n v1 T → V G X T 2 [(0, .ref (gad G 13)), (1, .int (zI v1))] [] := by
  intro n
  induction n with
  | zero =>
    intro v1 T h
    exact h.elim
  | succ n ih =>
    intro v1 T h
    rw [h_X9_begin_2] at h
    refine v_iload_n C 1 dX9_begin_2 rfl ?_
    refine v_bipush C dX9_begin_3 (by decide) ?_
    obtain ⟨e1, e2, e3⟩ := h
    refine v_icmp_ge (tgt := 21) C dX9_begin_5 (by decide) e1 ⟨by decide, by decide⟩ (fun e4 => ?_) (fun e4 => ?_)
    · have h := e2 e4
      refine v_aload_n C 0 dX9_begin_21 rfl ?_
      refine v_getA C kX9 26 rfl rfl wd_842 rfl dX9_begin_22 ?_
      refine v_bipush C dX9_begin_25 (by decide) ?_
      refine v_iconst C dX9_begin_27 ?_
      refine v_iast C (ar_of (o := 13) rfl ar_9_26) dX9_begin_28 (by decide) (by decide) ?_
      have h := h _ rfl
      refine v_aload_n C 0 dX9_begin_29 rfl ?_
      refine v_getA C kX9 30 rfl rfl wd_846 rfl dX9_begin_30 ?_
      refine v_iconst C dX9_begin_33 ?_
      refine v_iconst C dX9_begin_34 ?_
      refine v_zast C (ar_of (o := 13) rfl ar_9_30) (by decide) dX9_begin_35 (by decide) (by decide) ?_
      have h := h _ rfl
      refine v_aload_n C 0 dX9_begin_36 rfl ?_
      refine v_getA C kX9 30 rfl rfl wd_846 rfl dX9_begin_37 ?_
      refine v_iconst C dX9_begin_40 ?_
      refine v_iconst C dX9_begin_41 ?_
      refine v_zast C (ar_of (o := 13) rfl ar_9_30) (by decide) dX9_begin_42 (by decide) (by decide) ?_
      have h := h _ rfl
      refine v_aload_n C 0 dX9_begin_43 rfl ?_
      refine v_iconst C dX9_begin_44 ?_
      refine v_putI C kX9 31 rfl rfl wd_847 rfl rfl (tyX9_ok 31 (by decide)) dX9_begin_45 ?_
      have h := h _ rfl
      exact v_vret C E dX9_begin_48 h
    · have h := e3 e4
      refine v_aload_n C 0 dX9_begin_8 rfl ?_
      refine v_getA C kX9 26 rfl rfl wd_842 rfl dX9_begin_9 ?_
      refine v_iload_n C 1 dX9_begin_12 rfl ?_
      refine v_iconst C dX9_begin_13 ?_
      obtain ⟨e5, e6, h⟩ := h
      refine v_iast C (ar_of (o := 13) rfl ar_9_26) dX9_begin_14 e5 e6 ?_
      have h := h _ rfl
      refine v_iinc C 1 dX9_begin_15 rfl (by decide) ?_
      refine v_goto (tgt := 2) C dX9_begin_18 (by decide) ?_
      exact v_sub [1, 0] rfl (ih _ _ h)
set_option maxRecDepth 100000 in
theorem s_X9_begin (G : GT) (l0 : Launch) {T : TH} {Q : TH → Prop} (h : wp_X9_begin T Q) : MT G l0 yX9_begin cX9_begin 2 none 0 0 [.ref (gad G 13)] T (QV G Q) := by
  refine mt_of G l0 (by decide) (Nat.le_of_ble_eq_true rfl) (fun X C E => ?_)
  show V G X T 0 [(0, .ref (gad G 13))] []
  unfold wp_X9_begin at h
  refine v_iconst C dX9_begin_0 ?_
  refine v_istore_n C dX9_begin_1 rfl (by decide) ?_
  obtain ⟨n9, h⟩ := h
  exact v_sub [1, 0] rfl (t_X9_begin_2 C E n9 _ _ h)
def wp_X9_isOne (v1 : Int) (T : TH) (Q : Bool → TH → Prop) : Prop :=
  wp_X9_in v1 0 ((T 13 17 0) - 1) T (fun p2 T1 => Q p2 T1)
set_option maxRecDepth 100000 in
theorem s_X9_isOne (G : GT) (l0 : Launch) {v1 : Int} {T : TH} {Q : Bool → TH → Prop} (h : wp_X9_isOne v1 T Q) : MT G l0 yX9_isOne cX9_isOne 2 (some .boolean) 1 22 [.ref (gad G 13), .int (zI v1)] T (QZ G Q) := by
  refine mt_of G l0 (by decide) (Nat.le_of_ble_eq_true rfl) (fun X C E => ?_)
  show V G X T 0 [(0, .ref (gad G 13)), (1, .int (zI v1))] []
  unfold wp_X9_isOne at h
  refine v_iload_n C 1 dX9_isOne_0 rfl ?_
  refine v_iconst C dX9_isOne_1 ?_
  refine v_aload_n C 0 dX9_isOne_2 rfl ?_
  refine v_getI C kX9 17 rfl rfl wd_833 rfl dX9_isOne_3 ?_
  refine v_iconst C dX9_isOne_6 ?_
  refine v_isub C dX9_isOne_7 ?_
  refine v_cSZ C (s_X9_in G l0 h) mv_X9_in wd_937 ⟨by decide, by decide⟩ rfl rfl (Nat.le_of_ble_eq_true rfl) dX9_isOne_8 (fun p2 T1 h => ?_)
  exact v_zret (z := p2) C E dX9_isOne_11 h
def wp_X9_isFact (v1 : Int) (T : TH) (Q : Bool → TH → Prop) : Prop :=
  wp_X9_in v1 0 ((T 13 18 0) - 1) T (fun p2 T1 => Q p2 T1)
set_option maxRecDepth 100000 in
theorem s_X9_isFact (G : GT) (l0 : Launch) {v1 : Int} {T : TH} {Q : Bool → TH → Prop} (h : wp_X9_isFact v1 T Q) : MT G l0 yX9_isFact cX9_isFact 2 (some .boolean) 1 22 [.ref (gad G 13), .int (zI v1)] T (QZ G Q) := by
  refine mt_of G l0 (by decide) (Nat.le_of_ble_eq_true rfl) (fun X C E => ?_)
  show V G X T 0 [(0, .ref (gad G 13)), (1, .int (zI v1))] []
  unfold wp_X9_isFact at h
  refine v_iload_n C 1 dX9_isFact_0 rfl ?_
  refine v_iconst C dX9_isFact_1 ?_
  refine v_aload_n C 0 dX9_isFact_2 rfl ?_
  refine v_getI C kX9 18 rfl rfl wd_834 rfl dX9_isFact_3 ?_
  refine v_iconst C dX9_isFact_6 ?_
  refine v_isub C dX9_isFact_7 ?_
  refine v_cSZ C (s_X9_in G l0 h) mv_X9_in wd_937 ⟨by decide, by decide⟩ rfl rfl (Nat.le_of_ble_eq_true rfl) dX9_isFact_8 (fun p2 T1 h => ?_)
  exact v_zret (z := p2) C E dX9_isFact_11 h
def wp_X9_isBridge (v1 : Int) (T : TH) (Q : Bool → TH → Prop) : Prop :=
  wp_X9_in v1 0 ((T 13 23 0) - 1) T (fun p2 T1 => Q p2 T1)
set_option maxRecDepth 100000 in
theorem s_X9_isBridge (G : GT) (l0 : Launch) {v1 : Int} {T : TH} {Q : Bool → TH → Prop} (h : wp_X9_isBridge v1 T Q) : MT G l0 yX9_isBridge cX9_isBridge 2 (some .boolean) 1 22 [.ref (gad G 13), .int (zI v1)] T (QZ G Q) := by
  refine mt_of G l0 (by decide) (Nat.le_of_ble_eq_true rfl) (fun X C E => ?_)
  show V G X T 0 [(0, .ref (gad G 13)), (1, .int (zI v1))] []
  unfold wp_X9_isBridge at h
  refine v_iload_n C 1 dX9_isBridge_0 rfl ?_
  refine v_iconst C dX9_isBridge_1 ?_
  refine v_aload_n C 0 dX9_isBridge_2 rfl ?_
  refine v_getI C kX9 23 rfl rfl wd_839 rfl dX9_isBridge_3 ?_
  refine v_iconst C dX9_isBridge_6 ?_
  refine v_isub C dX9_isBridge_7 ?_
  refine v_cSZ C (s_X9_in G l0 h) mv_X9_in wd_937 ⟨by decide, by decide⟩ rfl rfl (Nat.le_of_ble_eq_true rfl) dX9_isBridge_8 (fun p2 T1 h => ?_)
  exact v_zret (z := p2) C E dX9_isBridge_11 h
def wp_X9_isSet (v1 : Int) (T : TH) (Q : Bool → TH → Prop) : Prop :=
  wp_X9_in v1 0 ((zshl 1 (T 13 17 0)) - 1) T (fun p2 T1 => Q p2 T1)
set_option maxRecDepth 100000 in
theorem s_X9_isSet (G : GT) (l0 : Launch) {v1 : Int} {T : TH} {Q : Bool → TH → Prop} (h : wp_X9_isSet v1 T Q) : MT G l0 yX9_isSet cX9_isSet 2 (some .boolean) 1 22 [.ref (gad G 13), .int (zI v1)] T (QZ G Q) := by
  refine mt_of G l0 (by decide) (Nat.le_of_ble_eq_true rfl) (fun X C E => ?_)
  show V G X T 0 [(0, .ref (gad G 13)), (1, .int (zI v1))] []
  unfold wp_X9_isSet at h
  refine v_iload_n C 1 dX9_isSet_0 rfl ?_
  refine v_iconst C dX9_isSet_1 ?_
  refine v_iconst C dX9_isSet_2 ?_
  refine v_aload_n C 0 dX9_isSet_3 rfl ?_
  refine v_getI C kX9 17 rfl rfl wd_833 rfl dX9_isSet_4 ?_
  refine v_ishl C dX9_isSet_7 ?_
  refine v_iconst C dX9_isSet_8 ?_
  refine v_isub C dX9_isSet_9 ?_
  refine v_cSZ C (s_X9_in G l0 h) mv_X9_in wd_937 ⟨by decide, by decide⟩ rfl rfl (Nat.le_of_ble_eq_true rfl) dX9_isSet_10 (fun p2 T1 h => ?_)
  exact v_zret (z := p2) C E dX9_isSet_13 h
def wp_X9_feed (v1 : Int) (T : TH) (Q : Int → TH → Prop) : Prop :=
  wp_X9_in v1 0 255 T (fun p2 T1 => (p2 = true → (zR (T1 13 0 0) ∧ (¬ (T1 13 0 0) = 250 → (0 ≤ (T1 13 0 0) ∧ (T1 13 0 0) < 250 ∧ ∀ T3 : TH, T3 = up T1 13 1 (T1 13 0 0) v1 → ∀ T4 : TH, T4 = up T3 13 0 0 ((T3 13 0 0) + 1) → Q (T4 13 0 0) T4)) ∧ ((T1 13 0 0) = 250 → (Q (-1000000004) T1)))) ∧ (p2 = false → (Q (-1000000002) T1)))
set_option maxRecDepth 100000 in
theorem s_X9_feed (G : GT) (l0 : Launch) {v1 : Int} {T : TH} {Q : Int → TH → Prop} (h : wp_X9_feed v1 T Q) : MT G l0 yX9_feed cX9_feed 2 (some .int) 1 22 [.ref (gad G 13), .int (zI v1)] T (QI G Q) := by
  refine mt_of G l0 (by decide) (Nat.le_of_ble_eq_true rfl) (fun X C E => ?_)
  show V G X T 0 [(0, .ref (gad G 13)), (1, .int (zI v1))] []
  unfold wp_X9_feed at h
  refine v_iload_n C 1 dX9_feed_0 rfl ?_
  refine v_iconst C dX9_feed_1 ?_
  refine v_sipush C dX9_feed_2 (by decide) ?_
  refine v_cSZ C (s_X9_in G l0 h) mv_X9_in wd_937 ⟨by decide, by decide⟩ rfl rfl (Nat.le_of_ble_eq_true rfl) dX9_feed_5 (fun p2 T1 h => ?_)
  obtain ⟨e1, e2⟩ := h
  refine v_ifz_ne (tgt := 14) C dX9_feed_8 (by decide) (fun e3 => ?_) (fun e3 => ?_)
  · have h := e1 e3
    refine v_aload_n C 0 dX9_feed_14 rfl ?_
    refine v_getI C kX9 0 rfl rfl wd_816 rfl dX9_feed_15 ?_
    refine v_sipush C dX9_feed_18 (by decide) ?_
    obtain ⟨e4, e5, e6⟩ := h
    refine v_icmp_ne (tgt := 27) C dX9_feed_21 (by decide) e4 ⟨by decide, by decide⟩ (fun e7 => ?_) (fun e7 => ?_)
    · have h := e5 e7
      refine v_aload_n C 0 dX9_feed_27 rfl ?_
      refine v_getA C kX9 1 rfl rfl wd_817 rfl dX9_feed_28 ?_
      refine v_aload_n C 0 dX9_feed_31 rfl ?_
      refine v_getI C kX9 0 rfl rfl wd_816 rfl dX9_feed_32 ?_
      refine v_iload_n C 1 dX9_feed_35 rfl ?_
      obtain ⟨e8, e9, h⟩ := h
      refine v_iast C (ar_of (o := 13) rfl ar_9_1) dX9_feed_36 e8 e9 ?_
      have h := h _ rfl
      refine v_aload_n C 0 dX9_feed_37 rfl ?_
      refine v_dup C dX9_feed_38 rfl ?_
      refine v_getI C kX9 0 rfl rfl wd_816 rfl dX9_feed_39 ?_
      refine v_iconst C dX9_feed_42 ?_
      refine v_iadd C dX9_feed_43 ?_
      refine v_putI C kX9 0 rfl rfl wd_816 rfl rfl (tyX9_ok 0 (by decide)) dX9_feed_44 ?_
      have h := h _ rfl
      refine v_aload_n C 0 dX9_feed_47 rfl ?_
      refine v_getI C kX9 0 rfl rfl wd_816 rfl dX9_feed_48 ?_
      exact v_iret C E dX9_feed_51 h
    · have h := e6 e7
      refine v_ldc (n := -1000000004) C dX9_feed_24 wd_941 (by decide) ?_
      exact v_iret C E dX9_feed_26 h
  · have h := e2 e3
    refine v_ldc (n := -1000000002) C dX9_feed_11 wd_940 (by decide) ?_
    exact v_iret C E dX9_feed_13 h
def b_X9_nextToken_197 (Q : TH → Prop) (s1 : Int) (T : TH) : Prop :=
  ∀ T1 : TH, T1 = up T 13 4 0 s1 → Q T1
def b_X9_nextToken_177 (Q : TH → Prop) (T : TH) : Prop :=
  zR ((T 13 2 0) - (T 13 3 0)) ∧ (((T 13 2 0) - (T 13 3 0)) ≤ 3 → (b_X9_nextToken_197 Q (-1) T)) ∧ (¬ (((T 13 2 0) - (T 13 3 0)) ≤ 3) → (b_X9_nextToken_197 Q (-3) T))
def b_X9_nextToken_161 (Q : TH → Prop) (K90 : TH → Prop) (s1 : Int) (T : TH) : Prop :=
  ∀ T1 : TH, T1 = up T 13 5 0 s1 → ∀ T2 : TH, T2 = up T1 13 2 0 ((T1 13 2 0) + 1) → K90 T2
def h_X9_nextToken_90 (Q : TH → Prop) : Nat → TH → Prop
  | 0, _ => False
  | n + 1, T => zR (T 13 2 0) ∧ zR (T 13 0 0) ∧ ((T 13 0 0) ≤ (T 13 2 0) → (b_X9_nextToken_177 Q T)) ∧ (¬ ((T 13 0 0) ≤ (T 13 2 0)) → (0 ≤ (T 13 2 0) ∧ (T 13 2 0) < 250 ∧ wp_X9_in (T 13 1 (T 13 2 0)) 48 57 T (fun p2 T1 => (p2 = false → (b_X9_nextToken_177 Q T1)) ∧ (p2 = true → (zR ((T1 13 2 0) - (T1 13 3 0)) ∧ (3 ≤ ((T1 13 2 0) - (T1 13 3 0)) → (b_X9_nextToken_161 Q (h_X9_nextToken_90 Q n) (T1 13 5 0) T1)) ∧ (¬ (3 ≤ ((T1 13 2 0) - (T1 13 3 0))) → (0 ≤ (T1 13 2 0) ∧ (T1 13 2 0) < 250 ∧ b_X9_nextToken_161 Q (h_X9_nextToken_90 Q n) (((10 * (T1 13 5 0)) + (T1 13 1 (T1 13 2 0))) - 48) T1)))))))
def b_X9_nextToken_38 (Q : TH → Prop) (T : TH) : Prop :=
  ∀ T1 : TH, T1 = up T 13 3 0 (T 13 2 0) → ∀ T2 : TH, T2 = up T1 13 5 0 0 → zR (T2 13 2 0) ∧ zR (T2 13 0 0) ∧ (¬ (T2 13 2 0) = (T2 13 0 0) → (0 ≤ (T2 13 2 0) ∧ (T2 13 2 0) < 250 ∧ wp_X9_in (T2 13 1 (T2 13 2 0)) 48 57 T2 (fun p4 T3 => (p4 = false → (0 ≤ (T3 13 2 0) ∧ (T3 13 2 0) < 250 ∧ ∀ T5 : TH, T5 = up T3 13 4 0 (T3 13 1 (T3 13 2 0)) → ∀ T6 : TH, T6 = up T5 13 2 0 ((T5 13 2 0) + 1) → Q T6)) ∧ (p4 = true → ((∃ m9 : Nat, h_X9_nextToken_90 Q m9 T3)))))) ∧ ((T2 13 2 0) = (T2 13 0 0) → (∀ T7 : TH, T7 = up T2 13 4 0 (-2) → Q T7))
def h_X9_nextToken_0 (Q : TH → Prop) : Nat → TH → Prop
  | 0, _ => False
  | n + 1, T => zR (T 13 2 0) ∧ zR (T 13 0 0) ∧ ((T 13 0 0) ≤ (T 13 2 0) → (b_X9_nextToken_38 Q T)) ∧ (¬ ((T 13 0 0) ≤ (T 13 2 0)) → (0 ≤ (T 13 2 0) ∧ (T 13 2 0) < 250 ∧ zR (T 13 1 (T 13 2 0)) ∧ (¬ (T 13 1 (T 13 2 0)) = 32 → (b_X9_nextToken_38 Q T)) ∧ ((T 13 1 (T 13 2 0)) = 32 → (∀ T1 : TH, T1 = up T 13 2 0 ((T 13 2 0) + 1) → (h_X9_nextToken_0 Q n) T1))))
def wp_X9_nextToken (T : TH) (Q : TH → Prop) : Prop :=
  (∃ m9 : Nat, h_X9_nextToken_0 Q m9 T)
set_option maxRecDepth 100000 in
theorem t_X9_nextToken_197 {G : GT} {l0 : Launch} {X : CX} (C : CT G l0 X cX9_nextToken 1 RX9 (rM 1 22)) {Q : TH → Prop} (E : EN G X none (QV G Q)) {s1 : Int} {T : TH} (h : b_X9_nextToken_197 Q s1 T) : V G X T 197 [(0, .ref (gad G 13))] [.int (zI s1), .ref (gad G 13)] := by
  unfold b_X9_nextToken_197 at h
  refine v_putI C kX9 4 rfl rfl wd_820 rfl rfl (tyX9_ok 4 (by decide)) dX9_nextToken_197 ?_
  have h := h _ rfl
  refine v_goto (tgt := 226) C dX9_nextToken_200 (by decide) ?_
  exact v_vret C E dX9_nextToken_226 h
set_option maxRecDepth 100000 in
theorem t_X9_nextToken_177 {G : GT} {l0 : Launch} {X : CX} (C : CT G l0 X cX9_nextToken 1 RX9 (rM 1 22)) {Q : TH → Prop} (E : EN G X none (QV G Q)) {T : TH} (h : b_X9_nextToken_177 Q T) : V G X T 177 [(0, .ref (gad G 13))] [] := by
  unfold b_X9_nextToken_177 at h
  refine v_aload_n C 0 dX9_nextToken_177 rfl ?_
  refine v_aload_n C 0 dX9_nextToken_178 rfl ?_
  refine v_getI C kX9 2 rfl rfl wd_818 rfl dX9_nextToken_179 ?_
  refine v_aload_n C 0 dX9_nextToken_182 rfl ?_
  refine v_getI C kX9 3 rfl rfl wd_819 rfl dX9_nextToken_183 ?_
  refine v_isub C dX9_nextToken_186 ?_
  refine v_iconst C dX9_nextToken_187 ?_
  obtain ⟨e1, e2, e3⟩ := h
  refine v_icmp_le (tgt := 196) C dX9_nextToken_188 (by decide) e1 ⟨by decide, by decide⟩ (fun e4 => ?_) (fun e4 => ?_)
  · have h := e2 e4
    refine v_iconst C dX9_nextToken_196 ?_
    exact v_sub [0] rfl (t_X9_nextToken_197 C E h)
  · have h := e3 e4
    refine v_bipush C dX9_nextToken_191 (by decide) ?_
    refine v_goto (tgt := 197) C dX9_nextToken_193 (by decide) ?_
    exact v_sub [0] rfl (t_X9_nextToken_197 C E h)
set_option maxRecDepth 100000 in
theorem t_X9_nextToken_161 {G : GT} {l0 : Launch} {X : CX} (C : CT G l0 X cX9_nextToken 1 RX9 (rM 1 22)) {Q : TH → Prop} (E : EN G X none (QV G Q)) {K90 : TH → Prop} (k90 : ∀ (T : TH), K90 T → V G X T 90 [(0, .ref (gad G 13))] []) {s1 : Int} {T : TH} (h : b_X9_nextToken_161 Q K90 s1 T) : V G X T 161 [(0, .ref (gad G 13))] [.int (zI s1), .ref (gad G 13)] := by
  unfold b_X9_nextToken_161 at h
  refine v_putI C kX9 5 rfl rfl wd_821 rfl rfl (tyX9_ok 5 (by decide)) dX9_nextToken_161 ?_
  have h := h _ rfl
  refine v_aload_n C 0 dX9_nextToken_164 rfl ?_
  refine v_dup C dX9_nextToken_165 rfl ?_
  refine v_getI C kX9 2 rfl rfl wd_818 rfl dX9_nextToken_166 ?_
  refine v_iconst C dX9_nextToken_169 ?_
  refine v_iadd C dX9_nextToken_170 ?_
  refine v_putI C kX9 2 rfl rfl wd_818 rfl rfl (tyX9_ok 2 (by decide)) dX9_nextToken_171 ?_
  have h := h _ rfl
  refine v_goto (tgt := 90) C dX9_nextToken_174 (by decide) ?_
  exact v_sub [0] rfl (k90 _ h)
set_option maxRecDepth 100000 in
theorem t_X9_nextToken_90 {G : GT} {l0 : Launch} {X : CX} (C : CT G l0 X cX9_nextToken 1 RX9 (rM 1 22)) {Q : TH → Prop} (E : EN G X none (QV G Q)) : ∀ (n : Nat) (T : TH), h_X9_nextToken_90 Q n T → V G X T 90 [(0, .ref (gad G 13))] [] := by
  intro n
  induction n with
  | zero =>
    intro T h
    exact h.elim
  | succ n ih =>
    intro T h
    rw [h_X9_nextToken_90] at h
    refine v_aload_n C 0 dX9_nextToken_90 rfl ?_
    refine v_getI C kX9 2 rfl rfl wd_818 rfl dX9_nextToken_91 ?_
    refine v_aload_n C 0 dX9_nextToken_94 rfl ?_
    refine v_getI C kX9 0 rfl rfl wd_816 rfl dX9_nextToken_95 ?_
    obtain ⟨e1, e2, e3, e4⟩ := h
    refine v_icmp_ge (tgt := 177) C dX9_nextToken_98 (by decide) e1 e2 (fun e5 => ?_) (fun e5 => ?_)
    · have h := e3 e5
      exact v_sub [0] rfl (t_X9_nextToken_177 C E h)
    · have h := e4 e5
      refine v_aload_n C 0 dX9_nextToken_101 rfl ?_
      refine v_getA C kX9 1 rfl rfl wd_817 rfl dX9_nextToken_102 ?_
      refine v_aload_n C 0 dX9_nextToken_105 rfl ?_
      refine v_getI C kX9 2 rfl rfl wd_818 rfl dX9_nextToken_106 ?_
      obtain ⟨e6, e7, h⟩ := h
      refine v_iald C (ar_of (o := 13) rfl ar_9_1) dX9_nextToken_109 e6 e7 ?_
      refine v_bipush C dX9_nextToken_110 (by decide) ?_
      refine v_bipush C dX9_nextToken_112 (by decide) ?_
      refine v_cSZ C (s_X9_in G l0 h) mv_X9_in wd_937 ⟨by decide, by decide⟩ rfl rfl (Nat.le_of_ble_eq_true rfl) dX9_nextToken_114 (fun p2 T1 h => ?_)
      obtain ⟨e8, e9⟩ := h
      refine v_ifz_eq (tgt := 177) C dX9_nextToken_117 (by decide) (fun e10 => ?_) (fun e10 => ?_)
      · have h := e8 e10
        exact v_sub [0] rfl (t_X9_nextToken_177 C E h)
      · have h := e9 e10
        refine v_aload_n C 0 dX9_nextToken_120 rfl ?_
        refine v_aload_n C 0 dX9_nextToken_121 rfl ?_
        refine v_getI C kX9 2 rfl rfl wd_818 rfl dX9_nextToken_122 ?_
        refine v_aload_n C 0 dX9_nextToken_125 rfl ?_
        refine v_getI C kX9 3 rfl rfl wd_819 rfl dX9_nextToken_126 ?_
        refine v_isub C dX9_nextToken_129 ?_
        refine v_iconst C dX9_nextToken_130 ?_
        obtain ⟨e11, e12, e13⟩ := h
        refine v_icmp_ge (tgt := 157) C dX9_nextToken_131 (by decide) e11 ⟨by decide, by decide⟩ (fun e14 => ?_) (fun e14 => ?_)
        · have h := e12 e14
          refine v_aload_n C 0 dX9_nextToken_157 rfl ?_
          refine v_getI C kX9 5 rfl rfl wd_821 rfl dX9_nextToken_158 ?_
          exact v_sub [0] rfl (t_X9_nextToken_161 C E ih h)
        · have h := e13 e14
          refine v_bipush C dX9_nextToken_134 (by decide) ?_
          refine v_aload_n C 0 dX9_nextToken_136 rfl ?_
          refine v_getI C kX9 5 rfl rfl wd_821 rfl dX9_nextToken_137 ?_
          refine v_imul C dX9_nextToken_140 ?_
          refine v_aload_n C 0 dX9_nextToken_141 rfl ?_
          refine v_getA C kX9 1 rfl rfl wd_817 rfl dX9_nextToken_142 ?_
          refine v_aload_n C 0 dX9_nextToken_145 rfl ?_
          refine v_getI C kX9 2 rfl rfl wd_818 rfl dX9_nextToken_146 ?_
          obtain ⟨e15, e16, h⟩ := h
          refine v_iald C (ar_of (o := 13) rfl ar_9_1) dX9_nextToken_149 e15 e16 ?_
          refine v_iadd C dX9_nextToken_150 ?_
          refine v_bipush C dX9_nextToken_151 (by decide) ?_
          refine v_isub C dX9_nextToken_153 ?_
          refine v_goto (tgt := 161) C dX9_nextToken_154 (by decide) ?_
          exact v_sub [0] rfl (t_X9_nextToken_161 C E ih h)
set_option maxRecDepth 100000 in
theorem t_X9_nextToken_38 {G : GT} {l0 : Launch} {X : CX} (C : CT G l0 X cX9_nextToken 1 RX9 (rM 1 22)) {Q : TH → Prop} (E : EN G X none (QV G Q)) {T : TH} (h : b_X9_nextToken_38 Q T) : V G X T 38 [(0, .ref (gad G 13))] [] := by
  unfold b_X9_nextToken_38 at h
  refine v_aload_n C 0 dX9_nextToken_38 rfl ?_
  refine v_aload_n C 0 dX9_nextToken_39 rfl ?_
  refine v_getI C kX9 2 rfl rfl wd_818 rfl dX9_nextToken_40 ?_
  refine v_putI C kX9 3 rfl rfl wd_819 rfl rfl (tyX9_ok 3 (by decide)) dX9_nextToken_43 ?_
  have h := h _ rfl
  refine v_aload_n C 0 dX9_nextToken_46 rfl ?_
  refine v_iconst C dX9_nextToken_47 ?_
  refine v_putI C kX9 5 rfl rfl wd_821 rfl rfl (tyX9_ok 5 (by decide)) dX9_nextToken_48 ?_
  have h := h _ rfl
  refine v_aload_n C 0 dX9_nextToken_51 rfl ?_
  refine v_getI C kX9 2 rfl rfl wd_818 rfl dX9_nextToken_52 ?_
  refine v_aload_n C 0 dX9_nextToken_55 rfl ?_
  refine v_getI C kX9 0 rfl rfl wd_816 rfl dX9_nextToken_56 ?_
  obtain ⟨e1, e2, e3, e4⟩ := h
  refine v_icmp_ne (tgt := 71) C dX9_nextToken_59 (by decide) e1 e2 (fun e5 => ?_) (fun e5 => ?_)
  · have h := e3 e5
    refine v_aload_n C 0 dX9_nextToken_71 rfl ?_
    refine v_getA C kX9 1 rfl rfl wd_817 rfl dX9_nextToken_72 ?_
    refine v_aload_n C 0 dX9_nextToken_75 rfl ?_
    refine v_getI C kX9 2 rfl rfl wd_818 rfl dX9_nextToken_76 ?_
    obtain ⟨e6, e7, h⟩ := h
    refine v_iald C (ar_of (o := 13) rfl ar_9_1) dX9_nextToken_79 e6 e7 ?_
    refine v_bipush C dX9_nextToken_80 (by decide) ?_
    refine v_bipush C dX9_nextToken_82 (by decide) ?_
    refine v_cSZ C (s_X9_in G l0 h) mv_X9_in wd_937 ⟨by decide, by decide⟩ rfl rfl (Nat.le_of_ble_eq_true rfl) dX9_nextToken_84 (fun p4 T3 h => ?_)
    obtain ⟨e8, e9⟩ := h
    refine v_ifz_eq (tgt := 203) C dX9_nextToken_87 (by decide) (fun e10 => ?_) (fun e10 => ?_)
    · have h := e8 e10
      refine v_aload_n C 0 dX9_nextToken_203 rfl ?_
      refine v_aload_n C 0 dX9_nextToken_204 rfl ?_
      refine v_getA C kX9 1 rfl rfl wd_817 rfl dX9_nextToken_205 ?_
      refine v_aload_n C 0 dX9_nextToken_208 rfl ?_
      refine v_getI C kX9 2 rfl rfl wd_818 rfl dX9_nextToken_209 ?_
      obtain ⟨e11, e12, h⟩ := h
      refine v_iald C (ar_of (o := 13) rfl ar_9_1) dX9_nextToken_212 e11 e12 ?_
      refine v_putI C kX9 4 rfl rfl wd_820 rfl rfl (tyX9_ok 4 (by decide)) dX9_nextToken_213 ?_
      have h := h _ rfl
      refine v_aload_n C 0 dX9_nextToken_216 rfl ?_
      refine v_dup C dX9_nextToken_217 rfl ?_
      refine v_getI C kX9 2 rfl rfl wd_818 rfl dX9_nextToken_218 ?_
      refine v_iconst C dX9_nextToken_221 ?_
      refine v_iadd C dX9_nextToken_222 ?_
      refine v_putI C kX9 2 rfl rfl wd_818 rfl rfl (tyX9_ok 2 (by decide)) dX9_nextToken_223 ?_
      have h := h _ rfl
      exact v_vret C E dX9_nextToken_226 h
    · have h := e9 e10
      obtain ⟨n9, h⟩ := h
      exact v_sub [0] rfl (t_X9_nextToken_90 C E n9 _ h)
  · have h := e4 e5
    refine v_aload_n C 0 dX9_nextToken_62 rfl ?_
    refine v_bipush C dX9_nextToken_63 (by decide) ?_
    refine v_putI C kX9 4 rfl rfl wd_820 rfl rfl (tyX9_ok 4 (by decide)) dX9_nextToken_65 ?_
    have h := h _ rfl
    refine v_goto (tgt := 226) C dX9_nextToken_68 (by decide) ?_
    exact v_vret C E dX9_nextToken_226 h
set_option maxRecDepth 100000 in
theorem t_X9_nextToken_0 {G : GT} {l0 : Launch} {X : CX} (C : CT G l0 X cX9_nextToken 1 RX9 (rM 1 22)) {Q : TH → Prop} (E : EN G X none (QV G Q)) : ∀ (n : Nat) (T : TH), h_X9_nextToken_0 Q n T → V G X T 0 [(0, .ref (gad G 13))] [] := by
  intro n
  induction n with
  | zero =>
    intro T h
    exact h.elim
  | succ n ih =>
    intro T h
    rw [h_X9_nextToken_0] at h
    refine v_aload_n C 0 dX9_nextToken_0 rfl ?_
    refine v_getI C kX9 2 rfl rfl wd_818 rfl dX9_nextToken_1 ?_
    refine v_aload_n C 0 dX9_nextToken_4 rfl ?_
    refine v_getI C kX9 0 rfl rfl wd_816 rfl dX9_nextToken_5 ?_
    obtain ⟨e1, e2, e3, e4⟩ := h
    refine v_icmp_ge (tgt := 38) C dX9_nextToken_8 (by decide) e1 e2 (fun e5 => ?_) (fun e5 => ?_)
    · have h := e3 e5
      exact v_sub [0] rfl (t_X9_nextToken_38 C E h)
    · have h := e4 e5
      refine v_aload_n C 0 dX9_nextToken_11 rfl ?_
      refine v_getA C kX9 1 rfl rfl wd_817 rfl dX9_nextToken_12 ?_
      refine v_aload_n C 0 dX9_nextToken_15 rfl ?_
      refine v_getI C kX9 2 rfl rfl wd_818 rfl dX9_nextToken_16 ?_
      obtain ⟨e6, e7, h⟩ := h
      refine v_iald C (ar_of (o := 13) rfl ar_9_1) dX9_nextToken_19 e6 e7 ?_
      refine v_bipush C dX9_nextToken_20 (by decide) ?_
      obtain ⟨e8, e9, e10⟩ := h
      refine v_icmp_ne (tgt := 38) C dX9_nextToken_22 (by decide) e8 ⟨by decide, by decide⟩ (fun e11 => ?_) (fun e11 => ?_)
      · have h := e9 e11
        exact v_sub [0] rfl (t_X9_nextToken_38 C E h)
      · have h := e10 e11
        refine v_aload_n C 0 dX9_nextToken_25 rfl ?_
        refine v_dup C dX9_nextToken_26 rfl ?_
        refine v_getI C kX9 2 rfl rfl wd_818 rfl dX9_nextToken_27 ?_
        refine v_iconst C dX9_nextToken_30 ?_
        refine v_iadd C dX9_nextToken_31 ?_
        refine v_putI C kX9 2 rfl rfl wd_818 rfl rfl (tyX9_ok 2 (by decide)) dX9_nextToken_32 ?_
        have h := h _ rfl
        refine v_goto (tgt := 0) C dX9_nextToken_35 (by decide) ?_
        exact v_sub [0] rfl (ih _ h)
set_option maxRecDepth 100000 in
theorem s_X9_nextToken (G : GT) (l0 : Launch) {T : TH} {Q : TH → Prop} (h : wp_X9_nextToken T Q) : MT G l0 yX9_nextToken cX9_nextToken 1 none 1 22 [.ref (gad G 13)] T (QV G Q) := by
  refine mt_of G l0 (by decide) (Nat.le_of_ble_eq_true rfl) (fun X C E => ?_)
  show V G X T 0 [(0, .ref (gad G 13))] []
  unfold wp_X9_nextToken at h
  obtain ⟨n9, h⟩ := h
  exact v_sub [0] rfl (t_X9_nextToken_0 C E n9 _ h)
def wp_X9_fails (v1 : Int) (T : TH) (Q : Bool → TH → Prop) : Prop :=
  ∀ T1 : TH, T1 = up T 13 7 0 v1 → ∀ T2 : TH, T2 = up T1 13 6 0 (T1 13 3 0) → Q false T2
set_option maxRecDepth 100000 in
theorem s_X9_fails (G : GT) (l0 : Launch) {v1 : Int} {T : TH} {Q : Bool → TH → Prop} (h : wp_X9_fails v1 T Q) : MT G l0 yX9_fails cX9_fails 2 (some .boolean) 0 0 [.ref (gad G 13), .int (zI v1)] T (QZ G Q) := by
  refine mt_of G l0 (by decide) (Nat.le_of_ble_eq_true rfl) (fun X C E => ?_)
  show V G X T 0 [(0, .ref (gad G 13)), (1, .int (zI v1))] []
  unfold wp_X9_fails at h
  refine v_aload_n C 0 dX9_fails_0 rfl ?_
  refine v_iload_n C 1 dX9_fails_1 rfl ?_
  refine v_putI C kX9 7 rfl rfl wd_823 rfl rfl (tyX9_ok 7 (by decide)) dX9_fails_2 ?_
  have h := h _ rfl
  refine v_aload_n C 0 dX9_fails_5 rfl ?_
  refine v_aload_n C 0 dX9_fails_6 rfl ?_
  refine v_getI C kX9 3 rfl rfl wd_819 rfl dX9_fails_7 ?_
  refine v_putI C kX9 6 rfl rfl wd_822 rfl rfl (tyX9_ok 6 (by decide)) dX9_fails_10 ?_
  have h := h _ rfl
  refine v_iconst C dX9_fails_13 ?_
  exact v_zret (z := false) C E dX9_fails_14 h
def b_X9_isNumber_55 (v1 : Int) (v2 : Int) (Q : Bool → TH → Prop) (T : TH) : Prop :=
  Q true T
def b_X9_isNumber_47 (v1 : Int) (v2 : Int) (Q : Bool → TH → Prop) (T : TH) : Prop :=
  wp_X9_fails 2 T (fun p2 T1 => (p2 = false → (Q false T1)) ∧ (p2 = true → (b_X9_isNumber_55 v1 v2 Q T1)))
def b_X9_isNumber_27 (v1 : Int) (v2 : Int) (Q : Bool → TH → Prop) (T : TH) : Prop :=
  zR (T 13 4 0) ∧ (¬ (T 13 4 0) = (-1) → (b_X9_isNumber_47 v1 v2 Q T)) ∧ ((T 13 4 0) = (-1) → (wp_X9_in (T 13 5 0) v1 v2 T (fun p2 T1 => (p2 = true → (b_X9_isNumber_55 v1 v2 Q T1)) ∧ (p2 = false → (b_X9_isNumber_47 v1 v2 Q T1)))))
def wp_X9_isNumber (v1 : Int) (v2 : Int) (T : TH) (Q : Bool → TH → Prop) : Prop :=
  wp_X9_nextToken T (fun T1 => zR (T1 13 4 0) ∧ ((T1 13 4 0) = (-1) → (b_X9_isNumber_27 v1 v2 Q T1)) ∧ (¬ ((T1 13 4 0) = (-1)) → (zR (T1 13 4 0) ∧ ((T1 13 4 0) = (-3) → (b_X9_isNumber_27 v1 v2 Q T1)) ∧ (¬ ((T1 13 4 0) = (-3)) → (wp_X9_fails 1 T1 (fun p3 T2 => Q p3 T2))))))
set_option maxRecDepth 100000 in
theorem t_X9_isNumber_55 {G : GT} {l0 : Launch} {X : CX} (C : CT G l0 X cX9_isNumber 3 RX9 (rM 2 42)) {Q : Bool → TH → Prop} (E : EN G X (some .boolean) (QZ G Q)) {v1 : Int} {v2 : Int} {T : TH} (h : b_X9_isNumber_55 v1 v2 Q T) : V G X T 55 [(0, .ref (gad G 13)), (1, .int (zI v1)), (2, .int (zI v2))] [] := by
  unfold b_X9_isNumber_55 at h
  refine v_iconst C dX9_isNumber_55 ?_
  refine v_goto (tgt := 60) C dX9_isNumber_56 (by decide) ?_
  exact v_zret (z := true) C E dX9_isNumber_60 h
set_option maxRecDepth 100000 in
theorem t_X9_isNumber_47 {G : GT} {l0 : Launch} {X : CX} (C : CT G l0 X cX9_isNumber 3 RX9 (rM 2 42)) {Q : Bool → TH → Prop} (E : EN G X (some .boolean) (QZ G Q)) {v1 : Int} {v2 : Int} {T : TH} (h : b_X9_isNumber_47 v1 v2 Q T) : V G X T 47 [(0, .ref (gad G 13)), (1, .int (zI v1)), (2, .int (zI v2))] [] := by
  unfold b_X9_isNumber_47 at h
  refine v_aload_n C 0 dX9_isNumber_47 rfl ?_
  refine v_iconst C dX9_isNumber_48 ?_
  refine v_cVZ C kX9 rfl (s_X9_fails G l0 h) mv_X9_fails wd_958 ⟨by decide, by decide⟩ rfl rfl (Nat.le_of_ble_eq_true rfl) dX9_isNumber_49 (fun p2 T1 h => ?_)
  obtain ⟨e1, e2⟩ := h
  refine v_ifz_eq (tgt := 59) C dX9_isNumber_52 (by decide) (fun e3 => ?_) (fun e3 => ?_)
  · have h := e1 e3
    refine v_iconst C dX9_isNumber_59 ?_
    exact v_zret (z := false) C E dX9_isNumber_60 h
  · have h := e2 e3
    exact v_sub [0, 1, 2] rfl (t_X9_isNumber_55 C E h)
set_option maxRecDepth 100000 in
theorem t_X9_isNumber_27 {G : GT} {l0 : Launch} {X : CX} (C : CT G l0 X cX9_isNumber 3 RX9 (rM 2 42)) {Q : Bool → TH → Prop} (E : EN G X (some .boolean) (QZ G Q)) {v1 : Int} {v2 : Int} {T : TH} (h : b_X9_isNumber_27 v1 v2 Q T) : V G X T 27 [(0, .ref (gad G 13)), (1, .int (zI v1)), (2, .int (zI v2))] [] := by
  unfold b_X9_isNumber_27 at h
  refine v_aload_n C 0 dX9_isNumber_27 rfl ?_
  refine v_getI C kX9 4 rfl rfl wd_820 rfl dX9_isNumber_28 ?_
  refine v_iconst C dX9_isNumber_31 ?_
  obtain ⟨e1, e2, e3⟩ := h
  refine v_icmp_ne (tgt := 47) C dX9_isNumber_32 (by decide) e1 ⟨by decide, by decide⟩ (fun e4 => ?_) (fun e4 => ?_)
  · have h := e2 e4
    exact v_sub [0, 1, 2] rfl (t_X9_isNumber_47 C E h)
  · have h := e3 e4
    refine v_aload_n C 0 dX9_isNumber_35 rfl ?_
    refine v_getI C kX9 5 rfl rfl wd_821 rfl dX9_isNumber_36 ?_
    refine v_iload_n C 1 dX9_isNumber_39 rfl ?_
    refine v_iload_n C 2 dX9_isNumber_40 rfl ?_
    refine v_cSZ C (s_X9_in G l0 h) mv_X9_in wd_937 ⟨by decide, by decide⟩ rfl rfl (Nat.le_of_ble_eq_true rfl) dX9_isNumber_41 (fun p2 T1 h => ?_)
    obtain ⟨e5, e6⟩ := h
    refine v_ifz_ne (tgt := 55) C dX9_isNumber_44 (by decide) (fun e7 => ?_) (fun e7 => ?_)
    · have h := e5 e7
      exact v_sub [0, 1, 2] rfl (t_X9_isNumber_55 C E h)
    · have h := e6 e7
      exact v_sub [0, 1, 2] rfl (t_X9_isNumber_47 C E h)
set_option maxRecDepth 100000 in
theorem s_X9_isNumber (G : GT) (l0 : Launch) {v1 : Int} {v2 : Int} {T : TH} {Q : Bool → TH → Prop} (h : wp_X9_isNumber v1 v2 T Q) : MT G l0 yX9_isNumber cX9_isNumber 3 (some .boolean) 2 42 [.ref (gad G 13), .int (zI v1), .int (zI v2)] T (QZ G Q) := by
  refine mt_of G l0 (by decide) (Nat.le_of_ble_eq_true rfl) (fun X C E => ?_)
  show V G X T 0 [(0, .ref (gad G 13)), (1, .int (zI v1)), (2, .int (zI v2))] []
  unfold wp_X9_isNumber at h
  refine v_aload_n C 0 dX9_isNumber_0 rfl ?_
  refine v_cVN C kX9 rfl (s_X9_nextToken G l0 h) mv_X9_nextToken wd_950 ⟨by decide, by decide⟩ rfl rfl (Nat.le_of_ble_eq_true rfl) dX9_isNumber_1 (fun T1 h => ?_)
  refine v_aload_n C 0 dX9_isNumber_4 rfl ?_
  refine v_getI C kX9 4 rfl rfl wd_820 rfl dX9_isNumber_5 ?_
  refine v_iconst C dX9_isNumber_8 ?_
  obtain ⟨e1, e2, e3⟩ := h
  refine v_icmp_eq (tgt := 27) C dX9_isNumber_9 (by decide) e1 ⟨by decide, by decide⟩ (fun e4 => ?_) (fun e4 => ?_)
  · have h := e2 e4
    exact v_sub [0, 1, 2] rfl (t_X9_isNumber_27 C E h)
  · have h := e3 e4
    refine v_aload_n C 0 dX9_isNumber_12 rfl ?_
    refine v_getI C kX9 4 rfl rfl wd_820 rfl dX9_isNumber_13 ?_
    refine v_bipush C dX9_isNumber_16 (by decide) ?_
    obtain ⟨e5, e6, e7⟩ := h
    refine v_icmp_eq (tgt := 27) C dX9_isNumber_18 (by decide) e5 ⟨by decide, by decide⟩ (fun e8 => ?_) (fun e8 => ?_)
    · have h := e6 e8
      exact v_sub [0, 1, 2] rfl (t_X9_isNumber_27 C E h)
    · have h := e7 e8
      refine v_aload_n C 0 dX9_isNumber_21 rfl ?_
      refine v_iconst C dX9_isNumber_22 ?_
      refine v_cVZ C kX9 rfl (s_X9_fails G l0 h) mv_X9_fails wd_958 ⟨by decide, by decide⟩ rfl rfl (Nat.le_of_ble_eq_true rfl) dX9_isNumber_23 (fun p3 T2 h => ?_)
      exact v_zret (z := p3) C E dX9_isNumber_26 h
def b_X9_isEnd_21 (Q : Bool → TH → Prop) (T : TH) : Prop :=
  Q true T
def wp_X9_isEnd (T : TH) (Q : Bool → TH → Prop) : Prop :=
  wp_X9_nextToken T (fun T1 => zR (T1 13 4 0) ∧ ((T1 13 4 0) = 59 → (b_X9_isEnd_21 Q T1)) ∧ (¬ ((T1 13 4 0) = 59) → (wp_X9_fails 1 T1 (fun p3 T2 => (p3 = false → (Q false T2)) ∧ (p3 = true → (b_X9_isEnd_21 Q T2))))))
set_option maxRecDepth 100000 in
theorem t_X9_isEnd_21 {G : GT} {l0 : Launch} {X : CX} (C : CT G l0 X cX9_isEnd 1 RX9 (rM 2 42)) {Q : Bool → TH → Prop} (E : EN G X (some .boolean) (QZ G Q)) {T : TH} (h : b_X9_isEnd_21 Q T) : V G X T 21 [(0, .ref (gad G 13))] [] := by
  unfold b_X9_isEnd_21 at h
  refine v_iconst C dX9_isEnd_21 ?_
  refine v_goto (tgt := 26) C dX9_isEnd_22 (by decide) ?_
  exact v_zret (z := true) C E dX9_isEnd_26 h
set_option maxRecDepth 100000 in
theorem s_X9_isEnd (G : GT) (l0 : Launch) {T : TH} {Q : Bool → TH → Prop} (h : wp_X9_isEnd T Q) : MT G l0 yX9_isEnd cX9_isEnd 1 (some .boolean) 2 42 [.ref (gad G 13)] T (QZ G Q) := by
  refine mt_of G l0 (by decide) (Nat.le_of_ble_eq_true rfl) (fun X C E => ?_)
  show V G X T 0 [(0, .ref (gad G 13))] []
  unfold wp_X9_isEnd at h
  refine v_aload_n C 0 dX9_isEnd_0 rfl ?_
  refine v_cVN C kX9 rfl (s_X9_nextToken G l0 h) mv_X9_nextToken wd_950 ⟨by decide, by decide⟩ rfl rfl (Nat.le_of_ble_eq_true rfl) dX9_isEnd_1 (fun T1 h => ?_)
  refine v_aload_n C 0 dX9_isEnd_4 rfl ?_
  refine v_getI C kX9 4 rfl rfl wd_820 rfl dX9_isEnd_5 ?_
  refine v_bipush C dX9_isEnd_8 (by decide) ?_
  obtain ⟨e1, e2, e3⟩ := h
  refine v_icmp_eq (tgt := 21) C dX9_isEnd_10 (by decide) e1 ⟨by decide, by decide⟩ (fun e4 => ?_) (fun e4 => ?_)
  · have h := e2 e4
    exact v_sub [0] rfl (t_X9_isEnd_21 C E h)
  · have h := e3 e4
    refine v_aload_n C 0 dX9_isEnd_13 rfl ?_
    refine v_iconst C dX9_isEnd_14 ?_
    refine v_cVZ C kX9 rfl (s_X9_fails G l0 h) mv_X9_fails wd_958 ⟨by decide, by decide⟩ rfl rfl (Nat.le_of_ble_eq_true rfl) dX9_isEnd_15 (fun p3 T2 h => ?_)
    obtain ⟨e5, e6⟩ := h
    refine v_ifz_eq (tgt := 25) C dX9_isEnd_18 (by decide) (fun e7 => ?_) (fun e7 => ?_)
    · have h := e5 e7
      refine v_iconst C dX9_isEnd_25 ?_
      exact v_zret (z := false) C E dX9_isEnd_26 h
    · have h := e6 e7
      exact v_sub [0] rfl (t_X9_isEnd_21 C E h)
def wp_X9_isPeopleLine (T : TH) (Q : Bool → TH → Prop) : Prop :=
  zR (T 13 8 0) ∧ ((T 13 8 0) ≤ 0 → (wp_X9_isNumber 1 7 T (fun p2 T1 => (p2 = true → (∀ T3 : TH, T3 = up T1 13 8 0 (T1 13 5 0) → wp_X9_isEnd T3 (fun p5 T4 => Q p5 T4))) ∧ (p2 = false → (Q false T1))))) ∧ (¬ ((T 13 8 0) ≤ 0) → (wp_X9_fails 3 T (fun p7 T6 => Q p7 T6)))
set_option maxRecDepth 100000 in
theorem s_X9_isPeopleLine (G : GT) (l0 : Launch) {T : TH} {Q : Bool → TH → Prop} (h : wp_X9_isPeopleLine T Q) : MT G l0 yX9_isPeopleLine cX9_isPeopleLine 1 (some .boolean) 3 64 [.ref (gad G 13)] T (QZ G Q) := by
  refine mt_of G l0 (by decide) (Nat.le_of_ble_eq_true rfl) (fun X C E => ?_)
  show V G X T 0 [(0, .ref (gad G 13))] []
  unfold wp_X9_isPeopleLine at h
  refine v_aload_n C 0 dX9_isPeopleLine_0 rfl ?_
  refine v_getI C kX9 8 rfl rfl wd_824 rfl dX9_isPeopleLine_1 ?_
  obtain ⟨e1, e2, e3⟩ := h
  refine v_if_le (tgt := 13) C dX9_isPeopleLine_4 (by decide) e1 (fun e4 => ?_) (fun e4 => ?_)
  · have h := e2 e4
    refine v_aload_n C 0 dX9_isPeopleLine_13 rfl ?_
    refine v_iconst C dX9_isPeopleLine_14 ?_
    refine v_bipush C dX9_isPeopleLine_15 (by decide) ?_
    refine v_cVZ C kX9 rfl (s_X9_isNumber G l0 h) mv_X9_isNumber wd_962 ⟨by decide, by decide⟩ rfl rfl (Nat.le_of_ble_eq_true rfl) dX9_isPeopleLine_17 (fun p2 T1 h => ?_)
    obtain ⟨e5, e6⟩ := h
    refine v_ifz_ne (tgt := 25) C dX9_isPeopleLine_20 (by decide) (fun e7 => ?_) (fun e7 => ?_)
    · have h := e5 e7
      refine v_aload_n C 0 dX9_isPeopleLine_25 rfl ?_
      refine v_aload_n C 0 dX9_isPeopleLine_26 rfl ?_
      refine v_getI C kX9 5 rfl rfl wd_821 rfl dX9_isPeopleLine_27 ?_
      refine v_putI C kX9 8 rfl rfl wd_824 rfl rfl (tyX9_ok 8 (by decide)) dX9_isPeopleLine_30 ?_
      have h := h _ rfl
      refine v_aload_n C 0 dX9_isPeopleLine_33 rfl ?_
      refine v_cVZ C kX9 rfl (s_X9_isEnd G l0 h) mv_X9_isEnd wd_966 ⟨by decide, by decide⟩ rfl rfl (Nat.le_of_ble_eq_true rfl) dX9_isPeopleLine_34 (fun p5 T4 h => ?_)
      exact v_zret (z := p5) C E dX9_isPeopleLine_37 h
    · have h := e6 e7
      refine v_iconst C dX9_isPeopleLine_23 ?_
      exact v_zret (z := false) C E dX9_isPeopleLine_24 h
  · have h := e3 e4
    refine v_aload_n C 0 dX9_isPeopleLine_7 rfl ?_
    refine v_iconst C dX9_isPeopleLine_8 ?_
    refine v_cVZ C kX9 rfl (s_X9_fails G l0 h) mv_X9_fails wd_958 ⟨by decide, by decide⟩ rfl rfl (Nat.le_of_ble_eq_true rfl) dX9_isPeopleLine_9 (fun p7 T6 h => ?_)
    exact v_zret (z := p7) C E dX9_isPeopleLine_12 h
def b_X9_isFactLine_64 (Q : Bool → TH → Prop) (K24 : Int → Int → TH → Prop) (v1 : Int) (v2 : Int) (y1 : Bool) (s2 : Int) (T : TH) : Prop :=
  wp_X9_isNumber (zi y1) s2 T (fun p2 T1 => (p2 = true → (0 ≤ (v1 + v2) ∧ (v1 + v2) < 32 ∧ ∀ T3 : TH, T3 = up T1 13 10 (v1 + v2) (T1 13 5 0) → K24 v1 (v2 + 1) T3)) ∧ (p2 = false → (Q false T1)))
def b_X9_isFactLine_40 (Q : Bool → TH → Prop) (K24 : Int → Int → TH → Prop) (v1 : Int) (v2 : Int) (y1 : Bool) (T : TH) : Prop :=
  zR v2 ∧ (¬ v2 = 0 → (zR v2 ∧ (¬ v2 = 1 → (b_X9_isFactLine_64 Q K24 v1 v2 y1 1 T)) ∧ (v2 = 1 → (b_X9_isFactLine_64 Q K24 v1 v2 y1 9 T)))) ∧ (v2 = 0 → (b_X9_isFactLine_64 Q K24 v1 v2 y1 ((T 13 8 0) - 1) T))
def h_X9_isFactLine_24 (Q : Bool → TH → Prop) : Nat → Int → Int → TH → Prop
  | 0, _, _, _ => False
  | n + 1, v1, v2, T => zR v2 ∧ (3 ≤ v2 → (0 ≤ (v1 + 3) ∧ (v1 + 3) < 32 ∧ ∀ T1 : TH, T1 = up T 13 10 (v1 + 3) (-1) → ∀ T2 : TH, T2 = up T1 13 9 0 ((T1 13 9 0) + 1) → wp_X9_isEnd T2 (fun p4 T3 => Q p4 T3))) ∧ (¬ (3 ≤ v2) → (zR v2 ∧ (¬ v2 = 1 → (b_X9_isFactLine_40 Q (h_X9_isFactLine_24 Q n) v1 v2 false T)) ∧ (v2 = 1 → (b_X9_isFactLine_40 Q (h_X9_isFactLine_24 Q n) v1 v2 true T))))
def wp_X9_isFactLine (T : TH) (Q : Bool → TH → Prop) : Prop :=
  zR (T 13 9 0) ∧ (¬ (T 13 9 0) = 8 → (∀ w1 : Int, w1 = (4 * (T 13 9 0)) → (∃ m9 : Nat, h_X9_isFactLine_24 Q m9 w1 0 T))) ∧ ((T 13 9 0) = 8 → (wp_X9_fails 3 T (fun p3 T2 => Q p3 T2)))
set_option maxRecDepth 100000 in
theorem t_X9_isFactLine_64 {G : GT} {l0 : Launch} {X : CX} (C : CT G l0 X cX9_isFactLine 3 RX9 (rM 3 64)) {Q : Bool → TH → Prop} (E : EN G X (some .boolean) (QZ G Q)) {K24 : Int → Int → TH → Prop} (k24 : ∀ (v1 : Int) (v2 : Int) (T : TH), K24 v1 v2 T → V G X T 24 [(0, .ref (gad G 13)), (1, .int (zI v1)), (2, .int (zI v2))] []) {v1 : Int} {v2 : Int} {y1 : Bool} {s2 : Int} {T : TH} (h : b_X9_isFactLine_64 Q K24 v1 v2 y1 s2 T) : V G X T 64 [(0, .ref (gad G 13)), (1, .int (zI v1)), (2, .int (zI v2))] [.int (zI s2), .int (zI (zi y1)), .ref (gad G 13)] := by
  unfold b_X9_isFactLine_64 at h
  refine v_cVZ C kX9 rfl (s_X9_isNumber G l0 h) mv_X9_isNumber wd_962 ⟨by decide, by decide⟩ rfl rfl (Nat.le_of_ble_eq_true rfl) dX9_isFactLine_64 (fun p2 T1 h => ?_)
  obtain ⟨e1, e2⟩ := h
  refine v_ifz_ne (tgt := 72) C dX9_isFactLine_67 (by decide) (fun e3 => ?_) (fun e3 => ?_)
  · have h := e1 e3
    refine v_aload_n C 0 dX9_isFactLine_72 rfl ?_
    refine v_getA C kX9 10 rfl rfl wd_826 rfl dX9_isFactLine_73 ?_
    refine v_iload_n C 1 dX9_isFactLine_76 rfl ?_
    refine v_iload_n C 2 dX9_isFactLine_77 rfl ?_
    refine v_iadd C dX9_isFactLine_78 ?_
    refine v_aload_n C 0 dX9_isFactLine_79 rfl ?_
    refine v_getI C kX9 5 rfl rfl wd_821 rfl dX9_isFactLine_80 ?_
    obtain ⟨e4, e5, h⟩ := h
    refine v_iast C (ar_of (o := 13) rfl ar_9_10) dX9_isFactLine_83 e4 e5 ?_
    have h := h _ rfl
    refine v_iinc C 2 dX9_isFactLine_84 rfl (by decide) ?_
    refine v_goto (tgt := 24) C dX9_isFactLine_87 (by decide) ?_
    exact v_sub [1, 2, 0] rfl (k24 _ _ _ h)
  · have h := e2 e3
    refine v_iconst C dX9_isFactLine_70 ?_
    exact v_zret (z := false) C E dX9_isFactLine_71 h
set_option maxRecDepth 100000 in
theorem t_X9_isFactLine_40 {G : GT} {l0 : Launch} {X : CX} (C : CT G l0 X cX9_isFactLine 3 RX9 (rM 3 64)) {Q : Bool → TH → Prop} (E : EN G X (some .boolean) (QZ G Q)) {K24 : Int → Int → TH → Prop} (k24 : ∀ (v1 : Int) (v2 : Int) (T : TH), K24 v1 v2 T → V G X T 24 [(0, .ref (gad G 13)), (1, .int (zI v1)), (2, .int (zI v2))] []) {v1 : Int} {v2 : Int} {y1 : Bool} {T : TH} (h : b_X9_isFactLine_40 Q K24 v1 v2 y1 T) : V G X T 40 [(0, .ref (gad G 13)), (1, .int (zI v1)), (2, .int (zI v2))] [.int (zI (zi y1)), .ref (gad G 13)] := by
  unfold b_X9_isFactLine_40 at h
  refine v_iload_n C 2 dX9_isFactLine_40 rfl ?_
  obtain ⟨e1, e2, e3⟩ := h
  refine v_if_ne (tgt := 53) C dX9_isFactLine_41 (by decide) e1 (fun e4 => ?_) (fun e4 => ?_)
  · have h := e2 e4
    refine v_iload_n C 2 dX9_isFactLine_53 rfl ?_
    refine v_iconst C dX9_isFactLine_54 ?_
    obtain ⟨e5, e6, e7⟩ := h
    refine v_icmp_ne (tgt := 63) C dX9_isFactLine_55 (by decide) e5 ⟨by decide, by decide⟩ (fun e8 => ?_) (fun e8 => ?_)
    · have h := e6 e8
      refine v_iconst C dX9_isFactLine_63 ?_
      exact v_sub [0, 1, 2] rfl (t_X9_isFactLine_64 C E k24 h)
    · have h := e7 e8
      refine v_bipush C dX9_isFactLine_58 (by decide) ?_
      refine v_goto (tgt := 64) C dX9_isFactLine_60 (by decide) ?_
      exact v_sub [0, 1, 2] rfl (t_X9_isFactLine_64 C E k24 h)
  · have h := e3 e4
    refine v_aload_n C 0 dX9_isFactLine_44 rfl ?_
    refine v_getI C kX9 8 rfl rfl wd_824 rfl dX9_isFactLine_45 ?_
    refine v_iconst C dX9_isFactLine_48 ?_
    refine v_isub C dX9_isFactLine_49 ?_
    refine v_goto (tgt := 64) C dX9_isFactLine_50 (by decide) ?_
    exact v_sub [0, 1, 2] rfl (t_X9_isFactLine_64 C E k24 h)
set_option maxRecDepth 100000 in
theorem t_X9_isFactLine_24 {G : GT} {l0 : Launch} {X : CX} (C : CT G l0 X cX9_isFactLine 3 RX9 (rM 3 64)) {Q : Bool → TH → Prop} (E : EN G X (some .boolean) (QZ G Q)) : ∀ (n : Nat) (v1 : Int) (v2 : Int) (T : TH), h_X9_isFactLine_24 Q n v1 v2 T → V G X T 24 [(0, .ref (gad G 13)), (1, .int (zI v1)), (2, .int (zI v2))] [] := by
  intro n
  induction n with
  | zero =>
    intro v1 v2 T h
    exact h.elim
  | succ n ih =>
    intro v1 v2 T h
    rw [h_X9_isFactLine_24] at h
    refine v_iload_n C 2 dX9_isFactLine_24 rfl ?_
    refine v_iconst C dX9_isFactLine_25 ?_
    obtain ⟨e1, e2, e3⟩ := h
    refine v_icmp_ge (tgt := 90) C dX9_isFactLine_26 (by decide) e1 ⟨by decide, by decide⟩ (fun e4 => ?_) (fun e4 => ?_)
    · have h := e2 e4
      refine v_aload_n C 0 dX9_isFactLine_90 rfl ?_
      refine v_getA C kX9 10 rfl rfl wd_826 rfl dX9_isFactLine_91 ?_
      refine v_iload_n C 1 dX9_isFactLine_94 rfl ?_
      refine v_iconst C dX9_isFactLine_95 ?_
      refine v_iadd C dX9_isFactLine_96 ?_
      refine v_iconst C dX9_isFactLine_97 ?_
      obtain ⟨e5, e6, h⟩ := h
      refine v_iast C (ar_of (o := 13) rfl ar_9_10) dX9_isFactLine_98 e5 e6 ?_
      have h := h _ rfl
      refine v_aload_n C 0 dX9_isFactLine_99 rfl ?_
      refine v_dup C dX9_isFactLine_100 rfl ?_
      refine v_getI C kX9 9 rfl rfl wd_825 rfl dX9_isFactLine_101 ?_
      refine v_iconst C dX9_isFactLine_104 ?_
      refine v_iadd C dX9_isFactLine_105 ?_
      refine v_putI C kX9 9 rfl rfl wd_825 rfl rfl (tyX9_ok 9 (by decide)) dX9_isFactLine_106 ?_
      have h := h _ rfl
      refine v_aload_n C 0 dX9_isFactLine_109 rfl ?_
      refine v_cVZ C kX9 rfl (s_X9_isEnd G l0 h) mv_X9_isEnd wd_966 ⟨by decide, by decide⟩ rfl rfl (Nat.le_of_ble_eq_true rfl) dX9_isFactLine_110 (fun p4 T3 h => ?_)
      exact v_zret (z := p4) C E dX9_isFactLine_113 h
    · have h := e3 e4
      refine v_aload_n C 0 dX9_isFactLine_29 rfl ?_
      refine v_iload_n C 2 dX9_isFactLine_30 rfl ?_
      refine v_iconst C dX9_isFactLine_31 ?_
      obtain ⟨e7, e8, e9⟩ := h
      refine v_icmp_ne (tgt := 39) C dX9_isFactLine_32 (by decide) e7 ⟨by decide, by decide⟩ (fun e10 => ?_) (fun e10 => ?_)
      · have h := e8 e10
        refine v_iconst C dX9_isFactLine_39 ?_
        exact v_sub [0, 1, 2] rfl (t_X9_isFactLine_40 C E ih h)
      · have h := e9 e10
        refine v_iconst C dX9_isFactLine_35 ?_
        refine v_goto (tgt := 40) C dX9_isFactLine_36 (by decide) ?_
        exact v_sub [0, 1, 2] rfl (t_X9_isFactLine_40 C E ih h)
set_option maxRecDepth 100000 in
theorem s_X9_isFactLine (G : GT) (l0 : Launch) {T : TH} {Q : Bool → TH → Prop} (h : wp_X9_isFactLine T Q) : MT G l0 yX9_isFactLine cX9_isFactLine 3 (some .boolean) 3 64 [.ref (gad G 13)] T (QZ G Q) := by
  refine mt_of G l0 (by decide) (Nat.le_of_ble_eq_true rfl) (fun X C E => ?_)
  show V G X T 0 [(0, .ref (gad G 13))] []
  unfold wp_X9_isFactLine at h
  refine v_aload_n C 0 dX9_isFactLine_0 rfl ?_
  refine v_getI C kX9 9 rfl rfl wd_825 rfl dX9_isFactLine_1 ?_
  refine v_bipush C dX9_isFactLine_4 (by decide) ?_
  obtain ⟨e1, e2, e3⟩ := h
  refine v_icmp_ne (tgt := 15) C dX9_isFactLine_6 (by decide) e1 ⟨by decide, by decide⟩ (fun e4 => ?_) (fun e4 => ?_)
  · have h := e2 e4
    refine v_iconst C dX9_isFactLine_15 ?_
    refine v_aload_n C 0 dX9_isFactLine_16 rfl ?_
    refine v_getI C kX9 9 rfl rfl wd_825 rfl dX9_isFactLine_17 ?_
    refine v_imul C dX9_isFactLine_20 ?_
    refine v_istore_n C dX9_isFactLine_21 rfl (by decide) ?_
    have h := h _ rfl
    refine v_iconst C dX9_isFactLine_22 ?_
    refine v_istore_n C dX9_isFactLine_23 rfl (by decide) ?_
    obtain ⟨n9, h⟩ := h
    exact v_sub [2, 1, 0] rfl (t_X9_isFactLine_24 C E n9 _ _ _ h)
  · have h := e3 e4
    refine v_aload_n C 0 dX9_isFactLine_9 rfl ?_
    refine v_iconst C dX9_isFactLine_10 ?_
    refine v_cVZ C kX9 rfl (s_X9_fails G l0 h) mv_X9_fails wd_958 ⟨by decide, by decide⟩ rfl rfl (Nat.le_of_ble_eq_true rfl) dX9_isFactLine_11 (fun p3 T2 h => ?_)
    exact v_zret (z := p3) C E dX9_isFactLine_14 h
def wp_X9_isKnownLine (T : TH) (Q : Bool → TH → Prop) : Prop :=
  wp_X9_isNumber 0 ((T 13 9 0) - 1) T (fun p2 T1 => (p2 = true → (∀ w3 : Int, w3 = (T1 13 5 0) → 0 ≤ ((4 * w3) + 3) ∧ ((4 * w3) + 3) < 32 ∧ zR (T1 13 10 ((4 * w3) + 3)) ∧ ((T1 13 10 ((4 * w3) + 3)) = (-1) → (wp_X9_isNumber 0 ((zshl 1 (T1 13 8 0)) - 1) T1 (fun p5 T4 => (p5 = true → (0 ≤ ((4 * w3) + 3) ∧ ((4 * w3) + 3) < 32 ∧ ∀ T6 : TH, T6 = up T4 13 10 ((4 * w3) + 3) (T4 13 5 0) → wp_X9_isEnd T6 (fun p8 T7 => Q p8 T7))) ∧ (p5 = false → (Q false T4))))) ∧ (¬ ((T1 13 10 ((4 * w3) + 3)) = (-1)) → (wp_X9_fails 4 T1 (fun p10 T9 => Q p10 T9))))) ∧ (p2 = false → (Q false T1)))
set_option maxRecDepth 100000 in
theorem s_X9_isKnownLine (G : GT) (l0 : Launch) {T : TH} {Q : Bool → TH → Prop} (h : wp_X9_isKnownLine T Q) : MT G l0 yX9_isKnownLine cX9_isKnownLine 2 (some .boolean) 3 64 [.ref (gad G 13)] T (QZ G Q) := by
  refine mt_of G l0 (by decide) (Nat.le_of_ble_eq_true rfl) (fun X C E => ?_)
  show V G X T 0 [(0, .ref (gad G 13))] []
  unfold wp_X9_isKnownLine at h
  refine v_aload_n C 0 dX9_isKnownLine_0 rfl ?_
  refine v_iconst C dX9_isKnownLine_1 ?_
  refine v_aload_n C 0 dX9_isKnownLine_2 rfl ?_
  refine v_getI C kX9 9 rfl rfl wd_825 rfl dX9_isKnownLine_3 ?_
  refine v_iconst C dX9_isKnownLine_6 ?_
  refine v_isub C dX9_isKnownLine_7 ?_
  refine v_cVZ C kX9 rfl (s_X9_isNumber G l0 h) mv_X9_isNumber wd_962 ⟨by decide, by decide⟩ rfl rfl (Nat.le_of_ble_eq_true rfl) dX9_isKnownLine_8 (fun p2 T1 h => ?_)
  obtain ⟨e1, e2⟩ := h
  refine v_ifz_ne (tgt := 16) C dX9_isKnownLine_11 (by decide) (fun e3 => ?_) (fun e3 => ?_)
  · have h := e1 e3
    refine v_aload_n C 0 dX9_isKnownLine_16 rfl ?_
    refine v_getI C kX9 5 rfl rfl wd_821 rfl dX9_isKnownLine_17 ?_
    refine v_istore_n C dX9_isKnownLine_20 rfl (by decide) ?_
    have h := h _ rfl
    refine v_aload_n C 1 dX9_isKnownLine_21 rfl ?_
    refine v_getA C kX9 10 rfl rfl wd_826 rfl dX9_isKnownLine_22 ?_
    refine v_iconst C dX9_isKnownLine_25 ?_
    refine v_iload_n C 0 dX9_isKnownLine_26 rfl ?_
    refine v_imul C dX9_isKnownLine_27 ?_
    refine v_iconst C dX9_isKnownLine_28 ?_
    refine v_iadd C dX9_isKnownLine_29 ?_
    obtain ⟨e4, e5, h⟩ := h
    refine v_iald C (ar_of (o := 13) rfl ar_9_10) dX9_isKnownLine_30 e4 e5 ?_
    refine v_iconst C dX9_isKnownLine_31 ?_
    obtain ⟨e6, e7, e8⟩ := h
    refine v_icmp_eq (tgt := 41) C dX9_isKnownLine_32 (by decide) e6 ⟨by decide, by decide⟩ (fun e9 => ?_) (fun e9 => ?_)
    · have h := e7 e9
      refine v_aload_n C 1 dX9_isKnownLine_41 rfl ?_
      refine v_iconst C dX9_isKnownLine_42 ?_
      refine v_iconst C dX9_isKnownLine_43 ?_
      refine v_aload_n C 1 dX9_isKnownLine_44 rfl ?_
      refine v_getI C kX9 8 rfl rfl wd_824 rfl dX9_isKnownLine_45 ?_
      refine v_ishl C dX9_isKnownLine_48 ?_
      refine v_iconst C dX9_isKnownLine_49 ?_
      refine v_isub C dX9_isKnownLine_50 ?_
      refine v_cVZ C kX9 rfl (s_X9_isNumber G l0 h) mv_X9_isNumber wd_962 ⟨by decide, by decide⟩ rfl rfl (Nat.le_of_ble_eq_true rfl) dX9_isKnownLine_51 (fun p5 T4 h => ?_)
      obtain ⟨e10, e11⟩ := h
      refine v_ifz_ne (tgt := 59) C dX9_isKnownLine_54 (by decide) (fun e12 => ?_) (fun e12 => ?_)
      · have h := e10 e12
        refine v_aload_n C 1 dX9_isKnownLine_59 rfl ?_
        refine v_getA C kX9 10 rfl rfl wd_826 rfl dX9_isKnownLine_60 ?_
        refine v_iconst C dX9_isKnownLine_63 ?_
        refine v_iload_n C 0 dX9_isKnownLine_64 rfl ?_
        refine v_imul C dX9_isKnownLine_65 ?_
        refine v_iconst C dX9_isKnownLine_66 ?_
        refine v_iadd C dX9_isKnownLine_67 ?_
        refine v_aload_n C 1 dX9_isKnownLine_68 rfl ?_
        refine v_getI C kX9 5 rfl rfl wd_821 rfl dX9_isKnownLine_69 ?_
        obtain ⟨e13, e14, h⟩ := h
        refine v_iast C (ar_of (o := 13) rfl ar_9_10) dX9_isKnownLine_72 e13 e14 ?_
        have h := h _ rfl
        refine v_aload_n C 1 dX9_isKnownLine_73 rfl ?_
        refine v_cVZ C kX9 rfl (s_X9_isEnd G l0 h) mv_X9_isEnd wd_966 ⟨by decide, by decide⟩ rfl rfl (Nat.le_of_ble_eq_true rfl) dX9_isKnownLine_74 (fun p8 T7 h => ?_)
        exact v_zret (z := p8) C E dX9_isKnownLine_77 h
      · have h := e11 e12
        refine v_iconst C dX9_isKnownLine_57 ?_
        exact v_zret (z := false) C E dX9_isKnownLine_58 h
    · have h := e8 e9
      refine v_aload_n C 1 dX9_isKnownLine_35 rfl ?_
      refine v_iconst C dX9_isKnownLine_36 ?_
      refine v_cVZ C kX9 rfl (s_X9_fails G l0 h) mv_X9_fails wd_958 ⟨by decide, by decide⟩ rfl rfl (Nat.le_of_ble_eq_true rfl) dX9_isKnownLine_37 (fun p10 T9 h => ?_)
      exact v_zret (z := p10) C E dX9_isKnownLine_40 h
  · have h := e2 e3
    refine v_iconst C dX9_isKnownLine_14 ?_
    exact v_zret (z := false) C E dX9_isKnownLine_15 h
def b_X9_isPairLine_137 (Q : Bool → TH → Prop) (K68 : Int → Bool → Int → TH → Prop) (v1 : Int) (v3 : Int) (y0 : Bool) (T : TH) : Prop :=
  K68 v1 y0 (v3 + 1) T
def b_X9_isPairLine_136 (Q : Bool → TH → Prop) (K68 : Int → Bool → Int → TH → Prop) (v1 : Int) (v3 : Int) (T : TH) : Prop :=
  b_X9_isPairLine_137 Q K68 v1 v3 false T
def b_X9_isPairLine_132 (Q : Bool → TH → Prop) (K68 : Int → Bool → Int → TH → Prop) (v1 : Int) (v3 : Int) (T : TH) : Prop :=
  b_X9_isPairLine_137 Q K68 v1 v3 true T
def b_X9_isPairLine_117 (Q : Bool → TH → Prop) (K68 : Int → Bool → Int → TH → Prop) (v1 : Int) (v3 : Int) (v4 : Int) (v5 : Int) (T : TH) : Prop :=
  zR v5 ∧ zR v1 ∧ (¬ v5 = v1 → (b_X9_isPairLine_136 Q K68 v1 v3 T)) ∧ (v5 = v1 → (zR v4 ∧ zR (T 13 5 0) ∧ (¬ v4 = (T 13 5 0) → (b_X9_isPairLine_136 Q K68 v1 v3 T)) ∧ (v4 = (T 13 5 0) → (b_X9_isPairLine_132 Q K68 v1 v3 T))))
def h_X9_isPairLine_68 (Q : Bool → TH → Prop) : Nat → Int → Bool → Int → TH → Prop
  | 0, _, _, _, _ => False
  | n + 1, v1, z2, v3, T => zR v3 ∧ zR (T 13 11 0) ∧ ((T 13 11 0) ≤ v3 → ((z2 = false → (0 ≤ (2 * (T 13 11 0)) ∧ (2 * (T 13 11 0)) < 24 ∧ ∀ T1 : TH, T1 = up T 13 12 (2 * (T 13 11 0)) v1 → 0 ≤ ((2 * (T1 13 11 0)) + 1) ∧ ((2 * (T1 13 11 0)) + 1) < 24 ∧ ∀ T2 : TH, T2 = up T1 13 12 ((2 * (T1 13 11 0)) + 1) (T1 13 5 0) → ∀ T3 : TH, T3 = up T2 13 11 0 ((T2 13 11 0) + 1) → wp_X9_isEnd T3 (fun p5 T4 => Q p5 T4))) ∧ (z2 = true → (wp_X9_fails 4 T (fun p7 T6 => Q p7 T6))))) ∧ (¬ ((T 13 11 0) ≤ v3) → (0 ≤ (2 * v3) ∧ (2 * v3) < 24 ∧ ∀ w8 : Int, w8 = (T 13 12 (2 * v3)) → 0 ≤ ((2 * v3) + 1) ∧ ((2 * v3) + 1) < 24 ∧ ∀ w9 : Int, w9 = (T 13 12 ((2 * v3) + 1)) → (z2 = true → (b_X9_isPairLine_132 Q (h_X9_isPairLine_68 Q n) v1 v3 T)) ∧ (z2 = false → (zR w8 ∧ zR v1 ∧ (¬ w8 = v1 → (b_X9_isPairLine_117 Q (h_X9_isPairLine_68 Q n) v1 v3 w8 w9 T)) ∧ (w8 = v1 → (zR w9 ∧ zR (T 13 5 0) ∧ (w9 = (T 13 5 0) → (b_X9_isPairLine_132 Q (h_X9_isPairLine_68 Q n) v1 v3 T)) ∧ (¬ (w9 = (T 13 5 0)) → (b_X9_isPairLine_117 Q (h_X9_isPairLine_68 Q n) v1 v3 w8 w9 T))))))))
def b_X9_isPairLine_65 (Q : Bool → TH → Prop) (v1 : Int) (y0 : Bool) (T : TH) : Prop :=
  (∃ m9 : Nat, h_X9_isPairLine_68 Q m9 v1 y0 0 T)
def wp_X9_isPairLine (T : TH) (Q : Bool → TH → Prop) : Prop :=
  zR (T 13 11 0) ∧ (¬ (T 13 11 0) = 12 → (wp_X9_isNumber 0 ((T 13 8 0) - 1) T (fun p2 T1 => (p2 = true → (∀ w3 : Int, w3 = (T1 13 5 0) → wp_X9_isNumber 0 ((T1 13 8 0) - 1) T1 (fun p5 T4 => (p5 = true → (zR w3 ∧ zR (T4 13 5 0) ∧ (¬ w3 = (T4 13 5 0) → (b_X9_isPairLine_65 Q w3 false T4)) ∧ (w3 = (T4 13 5 0) → (b_X9_isPairLine_65 Q w3 true T4)))) ∧ (p5 = false → (Q false T4))))) ∧ (p2 = false → (Q false T1))))) ∧ ((T 13 11 0) = 12 → (wp_X9_fails 3 T (fun p7 T6 => Q p7 T6)))
set_option maxRecDepth 100000 in
theorem t_X9_isPairLine_137 {G : GT} {l0 : Launch} {X : CX} (C : CT G l0 X cX9_isPairLine 6 RX9 (rM 3 64)) {Q : Bool → TH → Prop} (E : EN G X (some .boolean) (QZ G Q)) {K68 : Int → Bool → Int → TH → Prop} (k68 : ∀ (v1 : Int) (z2 : Bool) (v3 : Int) (T : TH), K68 v1 z2 v3 T → V G X T 68 [(0, .ref (gad G 13)), (1, .int (zI v1)), (2, .int (zI (zi z2))), (3, .int (zI v3))] []) {v1 : Int} {v3 : Int} {y0 : Bool} {T : TH} (h : b_X9_isPairLine_137 Q K68 v1 v3 y0 T) : V G X T 137 [(0, .ref (gad G 13)), (1, .int (zI v1)), (3, .int (zI v3))] [.int (zI (zi y0))] := by
  unfold b_X9_isPairLine_137 at h
  refine v_istore_n C dX9_isPairLine_137 rfl (by decide) ?_
  refine v_iinc C 3 dX9_isPairLine_138 rfl (by decide) ?_
  refine v_goto (tgt := 68) C dX9_isPairLine_141 (by decide) ?_
  exact v_sub [2, 3, 1, 0] rfl (k68 _ _ _ _ h)
set_option maxRecDepth 100000 in
theorem t_X9_isPairLine_136 {G : GT} {l0 : Launch} {X : CX} (C : CT G l0 X cX9_isPairLine 6 RX9 (rM 3 64)) {Q : Bool → TH → Prop} (E : EN G X (some .boolean) (QZ G Q)) {K68 : Int → Bool → Int → TH → Prop} (k68 : ∀ (v1 : Int) (z2 : Bool) (v3 : Int) (T : TH), K68 v1 z2 v3 T → V G X T 68 [(0, .ref (gad G 13)), (1, .int (zI v1)), (2, .int (zI (zi z2))), (3, .int (zI v3))] []) {v1 : Int} {v3 : Int} {T : TH} (h : b_X9_isPairLine_136 Q K68 v1 v3 T) : V G X T 136 [(0, .ref (gad G 13)), (1, .int (zI v1)), (3, .int (zI v3))] [] := by
  unfold b_X9_isPairLine_136 at h
  refine v_iconst C dX9_isPairLine_136 ?_
  exact v_sub [0, 1, 2] rfl (t_X9_isPairLine_137 C E k68 h)
set_option maxRecDepth 100000 in
theorem t_X9_isPairLine_132 {G : GT} {l0 : Launch} {X : CX} (C : CT G l0 X cX9_isPairLine 6 RX9 (rM 3 64)) {Q : Bool → TH → Prop} (E : EN G X (some .boolean) (QZ G Q)) {K68 : Int → Bool → Int → TH → Prop} (k68 : ∀ (v1 : Int) (z2 : Bool) (v3 : Int) (T : TH), K68 v1 z2 v3 T → V G X T 68 [(0, .ref (gad G 13)), (1, .int (zI v1)), (2, .int (zI (zi z2))), (3, .int (zI v3))] []) {v1 : Int} {v3 : Int} {T : TH} (h : b_X9_isPairLine_132 Q K68 v1 v3 T) : V G X T 132 [(0, .ref (gad G 13)), (1, .int (zI v1)), (3, .int (zI v3))] [] := by
  unfold b_X9_isPairLine_132 at h
  refine v_iconst C dX9_isPairLine_132 ?_
  refine v_goto (tgt := 137) C dX9_isPairLine_133 (by decide) ?_
  exact v_sub [0, 1, 2] rfl (t_X9_isPairLine_137 C E k68 h)
set_option maxRecDepth 100000 in
theorem t_X9_isPairLine_117 {G : GT} {l0 : Launch} {X : CX} (C : CT G l0 X cX9_isPairLine 6 RX9 (rM 3 64)) {Q : Bool → TH → Prop} (E : EN G X (some .boolean) (QZ G Q)) {K68 : Int → Bool → Int → TH → Prop} (k68 : ∀ (v1 : Int) (z2 : Bool) (v3 : Int) (T : TH), K68 v1 z2 v3 T → V G X T 68 [(0, .ref (gad G 13)), (1, .int (zI v1)), (2, .int (zI (zi z2))), (3, .int (zI v3))] []) {v1 : Int} {v3 : Int} {v4 : Int} {v5 : Int} {T : TH} (h : b_X9_isPairLine_117 Q K68 v1 v3 v4 v5 T) : V G X T 117 [(0, .ref (gad G 13)), (1, .int (zI v1)), (3, .int (zI v3)), (4, .int (zI v4)), (5, .int (zI v5))] [] := by
  unfold b_X9_isPairLine_117 at h
  refine v_iload C 4 dX9_isPairLine_117 rfl ?_
  refine v_iload_n C 1 dX9_isPairLine_119 rfl ?_
  obtain ⟨e1, e2, e3, e4⟩ := h
  refine v_icmp_ne (tgt := 136) C dX9_isPairLine_120 (by decide) e1 e2 (fun e5 => ?_) (fun e5 => ?_)
  · have h := e3 e5
    exact v_sub [0, 1, 2] rfl (t_X9_isPairLine_136 C E k68 h)
  · have h := e4 e5
    refine v_iload C 3 dX9_isPairLine_123 rfl ?_
    refine v_aload_n C 0 dX9_isPairLine_125 rfl ?_
    refine v_getI C kX9 5 rfl rfl wd_821 rfl dX9_isPairLine_126 ?_
    obtain ⟨e6, e7, e8, e9⟩ := h
    refine v_icmp_ne (tgt := 136) C dX9_isPairLine_129 (by decide) e6 e7 (fun e10 => ?_) (fun e10 => ?_)
    · have h := e8 e10
      exact v_sub [0, 1, 2] rfl (t_X9_isPairLine_136 C E k68 h)
    · have h := e9 e10
      exact v_sub [0, 1, 2] rfl (t_X9_isPairLine_132 C E k68 h)
set_option maxRecDepth 100000 in
theorem t_X9_isPairLine_68 {G : GT} {l0 : Launch} {X : CX} (C : CT G l0 X cX9_isPairLine 6 RX9 (rM 3 64)) {Q : Bool → TH → Prop} (E : EN G X (some .boolean) (QZ G Q)) : ∀ (n : Nat) (v1 : Int) (z2 : Bool) (v3 : Int) (T : TH), h_X9_isPairLine_68 Q n v1 z2 v3 T → V G X T 68 [(0, .ref (gad G 13)), (1, .int (zI v1)), (2, .int (zI (zi z2))), (3, .int (zI v3))] [] := by
  intro n
  induction n with
  | zero =>
    intro v1 z2 v3 T h
    exact h.elim
  | succ n ih =>
    intro v1 z2 v3 T h
    rw [h_X9_isPairLine_68] at h
    refine v_iload_n C 3 dX9_isPairLine_68 rfl ?_
    refine v_aload_n C 0 dX9_isPairLine_69 rfl ?_
    refine v_getI C kX9 11 rfl rfl wd_827 rfl dX9_isPairLine_70 ?_
    obtain ⟨e1, e2, e3, e4⟩ := h
    refine v_icmp_ge (tgt := 144) C dX9_isPairLine_73 (by decide) e1 e2 (fun e5 => ?_) (fun e5 => ?_)
    · have h := e3 e5
      refine v_iload_n C 2 dX9_isPairLine_144 rfl ?_
      obtain ⟨e6, e7⟩ := h
      refine v_ifz_eq (tgt := 154) C dX9_isPairLine_145 (by decide) (fun e8 => ?_) (fun e8 => ?_)
      · have h := e6 e8
        refine v_aload_n C 0 dX9_isPairLine_154 rfl ?_
        refine v_getA C kX9 12 rfl rfl wd_828 rfl dX9_isPairLine_155 ?_
        refine v_iconst C dX9_isPairLine_158 ?_
        refine v_aload_n C 0 dX9_isPairLine_159 rfl ?_
        refine v_getI C kX9 11 rfl rfl wd_827 rfl dX9_isPairLine_160 ?_
        refine v_imul C dX9_isPairLine_163 ?_
        refine v_iload_n C 1 dX9_isPairLine_164 rfl ?_
        obtain ⟨e9, e10, h⟩ := h
        refine v_iast C (ar_of (o := 13) rfl ar_9_12) dX9_isPairLine_165 e9 e10 ?_
        have h := h _ rfl
        refine v_aload_n C 0 dX9_isPairLine_166 rfl ?_
        refine v_getA C kX9 12 rfl rfl wd_828 rfl dX9_isPairLine_167 ?_
        refine v_iconst C dX9_isPairLine_170 ?_
        refine v_aload_n C 0 dX9_isPairLine_171 rfl ?_
        refine v_getI C kX9 11 rfl rfl wd_827 rfl dX9_isPairLine_172 ?_
        refine v_imul C dX9_isPairLine_175 ?_
        refine v_iconst C dX9_isPairLine_176 ?_
        refine v_iadd C dX9_isPairLine_177 ?_
        refine v_aload_n C 0 dX9_isPairLine_178 rfl ?_
        refine v_getI C kX9 5 rfl rfl wd_821 rfl dX9_isPairLine_179 ?_
        obtain ⟨e11, e12, h⟩ := h
        refine v_iast C (ar_of (o := 13) rfl ar_9_12) dX9_isPairLine_182 e11 e12 ?_
        have h := h _ rfl
        refine v_aload_n C 0 dX9_isPairLine_183 rfl ?_
        refine v_dup C dX9_isPairLine_184 rfl ?_
        refine v_getI C kX9 11 rfl rfl wd_827 rfl dX9_isPairLine_185 ?_
        refine v_iconst C dX9_isPairLine_188 ?_
        refine v_iadd C dX9_isPairLine_189 ?_
        refine v_putI C kX9 11 rfl rfl wd_827 rfl rfl (tyX9_ok 11 (by decide)) dX9_isPairLine_190 ?_
        have h := h _ rfl
        refine v_aload_n C 0 dX9_isPairLine_193 rfl ?_
        refine v_cVZ C kX9 rfl (s_X9_isEnd G l0 h) mv_X9_isEnd wd_966 ⟨by decide, by decide⟩ rfl rfl (Nat.le_of_ble_eq_true rfl) dX9_isPairLine_194 (fun p5 T4 h => ?_)
        exact v_zret (z := p5) C E dX9_isPairLine_197 h
      · have h := e7 e8
        refine v_aload_n C 0 dX9_isPairLine_148 rfl ?_
        refine v_iconst C dX9_isPairLine_149 ?_
        refine v_cVZ C kX9 rfl (s_X9_fails G l0 h) mv_X9_fails wd_958 ⟨by decide, by decide⟩ rfl rfl (Nat.le_of_ble_eq_true rfl) dX9_isPairLine_150 (fun p7 T6 h => ?_)
        exact v_zret (z := p7) C E dX9_isPairLine_153 h
    · have h := e4 e5
      refine v_aload_n C 0 dX9_isPairLine_76 rfl ?_
      refine v_getA C kX9 12 rfl rfl wd_828 rfl dX9_isPairLine_77 ?_
      refine v_iconst C dX9_isPairLine_80 ?_
      refine v_iload_n C 3 dX9_isPairLine_81 rfl ?_
      refine v_imul C dX9_isPairLine_82 ?_
      obtain ⟨e13, e14, h⟩ := h
      refine v_iald C (ar_of (o := 13) rfl ar_9_12) dX9_isPairLine_83 e13 e14 ?_
      refine v_istore C dX9_isPairLine_84 (by decide) ?_
      have h := h _ rfl
      refine v_aload_n C 1 dX9_isPairLine_86 rfl ?_
      refine v_getA C kX9 12 rfl rfl wd_828 rfl dX9_isPairLine_87 ?_
      refine v_iconst C dX9_isPairLine_90 ?_
      refine v_iload_n C 4 dX9_isPairLine_91 rfl ?_
      refine v_imul C dX9_isPairLine_92 ?_
      refine v_iconst C dX9_isPairLine_93 ?_
      refine v_iadd C dX9_isPairLine_94 ?_
      obtain ⟨e15, e16, h⟩ := h
      refine v_iald C (ar_of (o := 13) rfl ar_9_12) dX9_isPairLine_95 e15 e16 ?_
      refine v_istore C dX9_isPairLine_96 (by decide) ?_
      have h := h _ rfl
      refine v_iload_n C 4 dX9_isPairLine_98 rfl ?_
      obtain ⟨e17, e18⟩ := h
      refine v_ifz_ne (tgt := 132) C dX9_isPairLine_99 (by decide) (fun e19 => ?_) (fun e19 => ?_)
      · have h := e17 e19
        exact v_sub [2, 3, 5] rfl (t_X9_isPairLine_132 C E ih h)
      · have h := e18 e19
        refine v_iload C 1 dX9_isPairLine_102 rfl ?_
        refine v_iload_n C 3 dX9_isPairLine_104 rfl ?_
        obtain ⟨e20, e21, e22, e23⟩ := h
        refine v_icmp_ne (tgt := 117) C dX9_isPairLine_105 (by decide) e20 e21 (fun e24 => ?_) (fun e24 => ?_)
        · have h := e22 e24
          exact v_sub [2, 3, 5, 1, 0] rfl (t_X9_isPairLine_117 C E ih h)
        · have h := e23 e24
          refine v_iload C 0 dX9_isPairLine_108 rfl ?_
          refine v_aload_n C 2 dX9_isPairLine_110 rfl ?_
          refine v_getI C kX9 5 rfl rfl wd_821 rfl dX9_isPairLine_111 ?_
          obtain ⟨e25, e26, e27, e28⟩ := h
          refine v_icmp_eq (tgt := 132) C dX9_isPairLine_114 (by decide) e25 e26 (fun e29 => ?_) (fun e29 => ?_)
          · have h := e27 e29
            exact v_sub [2, 3, 5] rfl (t_X9_isPairLine_132 C E ih h)
          · have h := e28 e29
            exact v_sub [2, 3, 5, 1, 0] rfl (t_X9_isPairLine_117 C E ih h)
set_option maxRecDepth 100000 in
theorem t_X9_isPairLine_65 {G : GT} {l0 : Launch} {X : CX} (C : CT G l0 X cX9_isPairLine 6 RX9 (rM 3 64)) {Q : Bool → TH → Prop} (E : EN G X (some .boolean) (QZ G Q)) {v1 : Int} {y0 : Bool} {T : TH} (h : b_X9_isPairLine_65 Q v1 y0 T) : V G X T 65 [(0, .ref (gad G 13)), (1, .int (zI v1))] [.int (zI (zi y0))] := by
  unfold b_X9_isPairLine_65 at h
  refine v_istore_n C dX9_isPairLine_65 rfl (by decide) ?_
  refine v_iconst C dX9_isPairLine_66 ?_
  refine v_istore_n C dX9_isPairLine_67 rfl (by decide) ?_
  obtain ⟨n9, h⟩ := h
  exact v_sub [2, 3, 1, 0] rfl (t_X9_isPairLine_68 C E n9 _ _ _ _ h)
set_option maxRecDepth 100000 in
theorem s_X9_isPairLine (G : GT) (l0 : Launch) {T : TH} {Q : Bool → TH → Prop} (h : wp_X9_isPairLine T Q) : MT G l0 yX9_isPairLine cX9_isPairLine 6 (some .boolean) 3 64 [.ref (gad G 13)] T (QZ G Q) := by
  refine mt_of G l0 (by decide) (Nat.le_of_ble_eq_true rfl) (fun X C E => ?_)
  show V G X T 0 [(0, .ref (gad G 13))] []
  unfold wp_X9_isPairLine at h
  refine v_aload_n C 0 dX9_isPairLine_0 rfl ?_
  refine v_getI C kX9 11 rfl rfl wd_827 rfl dX9_isPairLine_1 ?_
  refine v_bipush C dX9_isPairLine_4 (by decide) ?_
  obtain ⟨e1, e2, e3⟩ := h
  refine v_icmp_ne (tgt := 15) C dX9_isPairLine_6 (by decide) e1 ⟨by decide, by decide⟩ (fun e4 => ?_) (fun e4 => ?_)
  · have h := e2 e4
    refine v_aload_n C 0 dX9_isPairLine_15 rfl ?_
    refine v_iconst C dX9_isPairLine_16 ?_
    refine v_aload_n C 0 dX9_isPairLine_17 rfl ?_
    refine v_getI C kX9 8 rfl rfl wd_824 rfl dX9_isPairLine_18 ?_
    refine v_iconst C dX9_isPairLine_21 ?_
    refine v_isub C dX9_isPairLine_22 ?_
    refine v_cVZ C kX9 rfl (s_X9_isNumber G l0 h) mv_X9_isNumber wd_962 ⟨by decide, by decide⟩ rfl rfl (Nat.le_of_ble_eq_true rfl) dX9_isPairLine_23 (fun p2 T1 h => ?_)
    obtain ⟨e5, e6⟩ := h
    refine v_ifz_ne (tgt := 31) C dX9_isPairLine_26 (by decide) (fun e7 => ?_) (fun e7 => ?_)
    · have h := e5 e7
      refine v_aload_n C 0 dX9_isPairLine_31 rfl ?_
      refine v_getI C kX9 5 rfl rfl wd_821 rfl dX9_isPairLine_32 ?_
      refine v_istore_n C dX9_isPairLine_35 rfl (by decide) ?_
      have h := h _ rfl
      refine v_aload_n C 1 dX9_isPairLine_36 rfl ?_
      refine v_iconst C dX9_isPairLine_37 ?_
      refine v_aload_n C 1 dX9_isPairLine_38 rfl ?_
      refine v_getI C kX9 8 rfl rfl wd_824 rfl dX9_isPairLine_39 ?_
      refine v_iconst C dX9_isPairLine_42 ?_
      refine v_isub C dX9_isPairLine_43 ?_
      refine v_cVZ C kX9 rfl (s_X9_isNumber G l0 h) mv_X9_isNumber wd_962 ⟨by decide, by decide⟩ rfl rfl (Nat.le_of_ble_eq_true rfl) dX9_isPairLine_44 (fun p5 T4 h => ?_)
      obtain ⟨e8, e9⟩ := h
      refine v_ifz_ne (tgt := 52) C dX9_isPairLine_47 (by decide) (fun e10 => ?_) (fun e10 => ?_)
      · have h := e8 e10
        refine v_iload_n C 0 dX9_isPairLine_52 rfl ?_
        refine v_aload_n C 1 dX9_isPairLine_53 rfl ?_
        refine v_getI C kX9 5 rfl rfl wd_821 rfl dX9_isPairLine_54 ?_
        obtain ⟨e11, e12, e13, e14⟩ := h
        refine v_icmp_ne (tgt := 64) C dX9_isPairLine_57 (by decide) e11 e12 (fun e15 => ?_) (fun e15 => ?_)
        · have h := e13 e15
          refine v_iconst C dX9_isPairLine_64 ?_
          exact v_sub [1, 0] rfl (t_X9_isPairLine_65 C E h)
        · have h := e14 e15
          refine v_iconst C dX9_isPairLine_60 ?_
          refine v_goto (tgt := 65) C dX9_isPairLine_61 (by decide) ?_
          exact v_sub [1, 0] rfl (t_X9_isPairLine_65 C E h)
      · have h := e9 e10
        refine v_iconst C dX9_isPairLine_50 ?_
        exact v_zret (z := false) C E dX9_isPairLine_51 h
    · have h := e6 e7
      refine v_iconst C dX9_isPairLine_29 ?_
      exact v_zret (z := false) C E dX9_isPairLine_30 h
  · have h := e3 e4
    refine v_aload_n C 0 dX9_isPairLine_9 rfl ?_
    refine v_iconst C dX9_isPairLine_10 ?_
    refine v_cVZ C kX9 rfl (s_X9_fails G l0 h) mv_X9_fails wd_958 ⟨by decide, by decide⟩ rfl rfl (Nat.le_of_ble_eq_true rfl) dX9_isPairLine_11 (fun p7 T6 h => ?_)
    exact v_zret (z := p7) C E dX9_isPairLine_14 h
def wp_X9_isQuietLine (T : TH) (Q : Bool → TH → Prop) : Prop :=
  wp_X9_isNumber 0 ((T 13 8 0) - 1) T (fun p2 T1 => (p2 = true → (wp_X9_has (T1 13 13 0) (T1 13 5 0) T1 (fun p4 T3 => (p4 = false → (∀ T5 : TH, T5 = up T3 13 13 0 (zor (T3 13 13 0) (zshl 1 (T3 13 5 0))) → wp_X9_isEnd T5 (fun p7 T6 => Q p7 T6))) ∧ (p4 = true → (wp_X9_fails 4 T3 (fun p9 T8 => Q p9 T8)))))) ∧ (p2 = false → (Q false T1)))
set_option maxRecDepth 100000 in
theorem s_X9_isQuietLine (G : GT) (l0 : Launch) {T : TH} {Q : Bool → TH → Prop} (h : wp_X9_isQuietLine T Q) : MT G l0 yX9_isQuietLine cX9_isQuietLine 1 (some .boolean) 3 64 [.ref (gad G 13)] T (QZ G Q) := by
  refine mt_of G l0 (by decide) (Nat.le_of_ble_eq_true rfl) (fun X C E => ?_)
  show V G X T 0 [(0, .ref (gad G 13))] []
  unfold wp_X9_isQuietLine at h
  refine v_aload_n C 0 dX9_isQuietLine_0 rfl ?_
  refine v_iconst C dX9_isQuietLine_1 ?_
  refine v_aload_n C 0 dX9_isQuietLine_2 rfl ?_
  refine v_getI C kX9 8 rfl rfl wd_824 rfl dX9_isQuietLine_3 ?_
  refine v_iconst C dX9_isQuietLine_6 ?_
  refine v_isub C dX9_isQuietLine_7 ?_
  refine v_cVZ C kX9 rfl (s_X9_isNumber G l0 h) mv_X9_isNumber wd_962 ⟨by decide, by decide⟩ rfl rfl (Nat.le_of_ble_eq_true rfl) dX9_isQuietLine_8 (fun p2 T1 h => ?_)
  obtain ⟨e1, e2⟩ := h
  refine v_ifz_ne (tgt := 16) C dX9_isQuietLine_11 (by decide) (fun e3 => ?_) (fun e3 => ?_)
  · have h := e1 e3
    refine v_aload_n C 0 dX9_isQuietLine_16 rfl ?_
    refine v_getI C kX9 13 rfl rfl wd_829 rfl dX9_isQuietLine_17 ?_
    refine v_aload_n C 0 dX9_isQuietLine_20 rfl ?_
    refine v_getI C kX9 5 rfl rfl wd_821 rfl dX9_isQuietLine_21 ?_
    refine v_cSZ C (s_X9_has G l0 h) mv_X9_has wd_986 ⟨by decide, by decide⟩ rfl rfl (Nat.le_of_ble_eq_true rfl) dX9_isQuietLine_24 (fun p4 T3 h => ?_)
    obtain ⟨e4, e5⟩ := h
    refine v_ifz_eq (tgt := 36) C dX9_isQuietLine_27 (by decide) (fun e6 => ?_) (fun e6 => ?_)
    · have h := e4 e6
      refine v_aload_n C 0 dX9_isQuietLine_36 rfl ?_
      refine v_aload_n C 0 dX9_isQuietLine_37 rfl ?_
      refine v_getI C kX9 13 rfl rfl wd_829 rfl dX9_isQuietLine_38 ?_
      refine v_iconst C dX9_isQuietLine_41 ?_
      refine v_aload_n C 0 dX9_isQuietLine_42 rfl ?_
      refine v_getI C kX9 5 rfl rfl wd_821 rfl dX9_isQuietLine_43 ?_
      refine v_ishl C dX9_isQuietLine_46 ?_
      refine v_ior C dX9_isQuietLine_47 ?_
      refine v_putI C kX9 13 rfl rfl wd_829 rfl rfl (tyX9_ok 13 (by decide)) dX9_isQuietLine_48 ?_
      have h := h _ rfl
      refine v_aload_n C 0 dX9_isQuietLine_51 rfl ?_
      refine v_cVZ C kX9 rfl (s_X9_isEnd G l0 h) mv_X9_isEnd wd_966 ⟨by decide, by decide⟩ rfl rfl (Nat.le_of_ble_eq_true rfl) dX9_isQuietLine_52 (fun p7 T6 h => ?_)
      exact v_zret (z := p7) C E dX9_isQuietLine_55 h
    · have h := e5 e6
      refine v_aload_n C 0 dX9_isQuietLine_30 rfl ?_
      refine v_iconst C dX9_isQuietLine_31 ?_
      refine v_cVZ C kX9 rfl (s_X9_fails G l0 h) mv_X9_fails wd_958 ⟨by decide, by decide⟩ rfl rfl (Nat.le_of_ble_eq_true rfl) dX9_isQuietLine_32 (fun p9 T8 h => ?_)
      exact v_zret (z := p9) C E dX9_isQuietLine_35 h
  · have h := e2 e3
    refine v_iconst C dX9_isQuietLine_14 ?_
    exact v_zret (z := false) C E dX9_isQuietLine_15 h
def wp_X9_isBridgeLine (T : TH) (Q : Bool → TH → Prop) : Prop :=
  zR (T 13 14 0) ∧ (¬ (T 13 14 0) = 4 → (wp_X9_isNumber 0 999 T (fun p2 T1 => (p2 = true → (0 ≤ (T1 13 14 0) ∧ (T1 13 14 0) < 4 ∧ ∀ T3 : TH, T3 = up T1 13 15 (T1 13 14 0) (T1 13 5 0) → ∀ T4 : TH, T4 = up T3 13 14 0 ((T3 13 14 0) + 1) → wp_X9_isEnd T4 (fun p6 T5 => Q p6 T5))) ∧ (p2 = false → (Q false T1))))) ∧ ((T 13 14 0) = 4 → (wp_X9_fails 3 T (fun p8 T7 => Q p8 T7)))
set_option maxRecDepth 100000 in
theorem s_X9_isBridgeLine (G : GT) (l0 : Launch) {T : TH} {Q : Bool → TH → Prop} (h : wp_X9_isBridgeLine T Q) : MT G l0 yX9_isBridgeLine cX9_isBridgeLine 1 (some .boolean) 3 64 [.ref (gad G 13)] T (QZ G Q) := by
  refine mt_of G l0 (by decide) (Nat.le_of_ble_eq_true rfl) (fun X C E => ?_)
  show V G X T 0 [(0, .ref (gad G 13))] []
  unfold wp_X9_isBridgeLine at h
  refine v_aload_n C 0 dX9_isBridgeLine_0 rfl ?_
  refine v_getI C kX9 14 rfl rfl wd_830 rfl dX9_isBridgeLine_1 ?_
  refine v_iconst C dX9_isBridgeLine_4 ?_
  obtain ⟨e1, e2, e3⟩ := h
  refine v_icmp_ne (tgt := 14) C dX9_isBridgeLine_5 (by decide) e1 ⟨by decide, by decide⟩ (fun e4 => ?_) (fun e4 => ?_)
  · have h := e2 e4
    refine v_aload_n C 0 dX9_isBridgeLine_14 rfl ?_
    refine v_iconst C dX9_isBridgeLine_15 ?_
    refine v_sipush C dX9_isBridgeLine_16 (by decide) ?_
    refine v_cVZ C kX9 rfl (s_X9_isNumber G l0 h) mv_X9_isNumber wd_962 ⟨by decide, by decide⟩ rfl rfl (Nat.le_of_ble_eq_true rfl) dX9_isBridgeLine_19 (fun p2 T1 h => ?_)
    obtain ⟨e5, e6⟩ := h
    refine v_ifz_ne (tgt := 27) C dX9_isBridgeLine_22 (by decide) (fun e7 => ?_) (fun e7 => ?_)
    · have h := e5 e7
      refine v_aload_n C 0 dX9_isBridgeLine_27 rfl ?_
      refine v_getA C kX9 15 rfl rfl wd_831 rfl dX9_isBridgeLine_28 ?_
      refine v_aload_n C 0 dX9_isBridgeLine_31 rfl ?_
      refine v_getI C kX9 14 rfl rfl wd_830 rfl dX9_isBridgeLine_32 ?_
      refine v_aload_n C 0 dX9_isBridgeLine_35 rfl ?_
      refine v_getI C kX9 5 rfl rfl wd_821 rfl dX9_isBridgeLine_36 ?_
      obtain ⟨e8, e9, h⟩ := h
      refine v_iast C (ar_of (o := 13) rfl ar_9_15) dX9_isBridgeLine_39 e8 e9 ?_
      have h := h _ rfl
      refine v_aload_n C 0 dX9_isBridgeLine_40 rfl ?_
      refine v_dup C dX9_isBridgeLine_41 rfl ?_
      refine v_getI C kX9 14 rfl rfl wd_830 rfl dX9_isBridgeLine_42 ?_
      refine v_iconst C dX9_isBridgeLine_45 ?_
      refine v_iadd C dX9_isBridgeLine_46 ?_
      refine v_putI C kX9 14 rfl rfl wd_830 rfl rfl (tyX9_ok 14 (by decide)) dX9_isBridgeLine_47 ?_
      have h := h _ rfl
      refine v_aload_n C 0 dX9_isBridgeLine_50 rfl ?_
      refine v_cVZ C kX9 rfl (s_X9_isEnd G l0 h) mv_X9_isEnd wd_966 ⟨by decide, by decide⟩ rfl rfl (Nat.le_of_ble_eq_true rfl) dX9_isBridgeLine_51 (fun p6 T5 h => ?_)
      exact v_zret (z := p6) C E dX9_isBridgeLine_54 h
    · have h := e6 e7
      refine v_iconst C dX9_isBridgeLine_25 ?_
      exact v_zret (z := false) C E dX9_isBridgeLine_26 h
  · have h := e3 e4
    refine v_aload_n C 0 dX9_isBridgeLine_8 rfl ?_
    refine v_iconst C dX9_isBridgeLine_9 ?_
    refine v_cVZ C kX9 rfl (s_X9_fails G l0 h) mv_X9_fails wd_958 ⟨by decide, by decide⟩ rfl rfl (Nat.le_of_ble_eq_true rfl) dX9_isBridgeLine_10 (fun p8 T7 h => ?_)
    exact v_zret (z := p8) C E dX9_isBridgeLine_13 h
def wp_X9_isHoursLine (T : TH) (Q : Bool → TH → Prop) : Prop :=
  zR (T 13 16 0) ∧ ((T 13 16 0) ≤ 0 → (wp_X9_isNumber 1 99 T (fun p2 T1 => (p2 = true → (∀ T3 : TH, T3 = up T1 13 16 0 (T1 13 5 0) → wp_X9_isEnd T3 (fun p5 T4 => Q p5 T4))) ∧ (p2 = false → (Q false T1))))) ∧ (¬ ((T 13 16 0) ≤ 0) → (wp_X9_fails 3 T (fun p7 T6 => Q p7 T6)))
set_option maxRecDepth 100000 in
theorem s_X9_isHoursLine (G : GT) (l0 : Launch) {T : TH} {Q : Bool → TH → Prop} (h : wp_X9_isHoursLine T Q) : MT G l0 yX9_isHoursLine cX9_isHoursLine 1 (some .boolean) 3 64 [.ref (gad G 13)] T (QZ G Q) := by
  refine mt_of G l0 (by decide) (Nat.le_of_ble_eq_true rfl) (fun X C E => ?_)
  show V G X T 0 [(0, .ref (gad G 13))] []
  unfold wp_X9_isHoursLine at h
  refine v_aload_n C 0 dX9_isHoursLine_0 rfl ?_
  refine v_getI C kX9 16 rfl rfl wd_832 rfl dX9_isHoursLine_1 ?_
  obtain ⟨e1, e2, e3⟩ := h
  refine v_if_le (tgt := 13) C dX9_isHoursLine_4 (by decide) e1 (fun e4 => ?_) (fun e4 => ?_)
  · have h := e2 e4
    refine v_aload_n C 0 dX9_isHoursLine_13 rfl ?_
    refine v_iconst C dX9_isHoursLine_14 ?_
    refine v_bipush C dX9_isHoursLine_15 (by decide) ?_
    refine v_cVZ C kX9 rfl (s_X9_isNumber G l0 h) mv_X9_isNumber wd_962 ⟨by decide, by decide⟩ rfl rfl (Nat.le_of_ble_eq_true rfl) dX9_isHoursLine_17 (fun p2 T1 h => ?_)
    obtain ⟨e5, e6⟩ := h
    refine v_ifz_ne (tgt := 25) C dX9_isHoursLine_20 (by decide) (fun e7 => ?_) (fun e7 => ?_)
    · have h := e5 e7
      refine v_aload_n C 0 dX9_isHoursLine_25 rfl ?_
      refine v_aload_n C 0 dX9_isHoursLine_26 rfl ?_
      refine v_getI C kX9 5 rfl rfl wd_821 rfl dX9_isHoursLine_27 ?_
      refine v_putI C kX9 16 rfl rfl wd_832 rfl rfl (tyX9_ok 16 (by decide)) dX9_isHoursLine_30 ?_
      have h := h _ rfl
      refine v_aload_n C 0 dX9_isHoursLine_33 rfl ?_
      refine v_cVZ C kX9 rfl (s_X9_isEnd G l0 h) mv_X9_isEnd wd_966 ⟨by decide, by decide⟩ rfl rfl (Nat.le_of_ble_eq_true rfl) dX9_isHoursLine_34 (fun p5 T4 h => ?_)
      exact v_zret (z := p5) C E dX9_isHoursLine_37 h
    · have h := e6 e7
      refine v_iconst C dX9_isHoursLine_23 ?_
      exact v_zret (z := false) C E dX9_isHoursLine_24 h
  · have h := e3 e4
    refine v_aload_n C 0 dX9_isHoursLine_7 rfl ?_
    refine v_iconst C dX9_isHoursLine_8 ?_
    refine v_cVZ C kX9 rfl (s_X9_fails G l0 h) mv_X9_fails wd_958 ⟨by decide, by decide⟩ rfl rfl (Nat.le_of_ble_eq_true rfl) dX9_isHoursLine_9 (fun p7 T6 h => ?_)
    exact v_zret (z := p7) C E dX9_isHoursLine_12 h
def b_X9_isRead_198 (Q : Bool → TH → Prop) (K37 : Bool → TH → Prop) (y0 : Bool) (T : TH) : Prop :=
  K37 y0 T
def h_X9_isRead_37 (Q : Bool → TH → Prop) : Nat → Bool → TH → Prop
  | 0, _, _ => False
  | n + 1, z1, T => (z1 = false → (zR (T 13 6 0) ∧ (¬ (T 13 6 0) = (-1) → (Q false T)) ∧ ((T 13 6 0) = (-1) → (Q true T)))) ∧ (z1 = true → (wp_X9_nextToken T (fun T1 => zR (T1 13 4 0) ∧ (¬ (T1 13 4 0) = (-2) → (zR (T1 13 4 0) ∧ (¬ (T1 13 4 0) = 116 → (zR (T1 13 8 0) ∧ (¬ (T1 13 8 0) = 0 → (zR (T1 13 4 0) ∧ (¬ (T1 13 4 0) = 102 → (zR (T1 13 4 0) ∧ (¬ (T1 13 4 0) = 107 → (zR (T1 13 4 0) ∧ (¬ (T1 13 4 0) = 119 → (zR (T1 13 4 0) ∧ (¬ (T1 13 4 0) = 109 → (zR (T1 13 4 0) ∧ (¬ (T1 13 4 0) = 98 → (zR (T1 13 4 0) ∧ (¬ (T1 13 4 0) = 103 → (wp_X9_fails 1 T1 (fun p3 T2 => b_X9_isRead_198 Q (h_X9_isRead_37 Q n) p3 T2))) ∧ ((T1 13 4 0) = 103 → (wp_X9_isHoursLine T1 (fun p5 T4 => b_X9_isRead_198 Q (h_X9_isRead_37 Q n) p5 T4))))) ∧ ((T1 13 4 0) = 98 → (wp_X9_isBridgeLine T1 (fun p7 T6 => (h_X9_isRead_37 Q n) p7 T6))))) ∧ ((T1 13 4 0) = 109 → (wp_X9_isQuietLine T1 (fun p9 T8 => (h_X9_isRead_37 Q n) p9 T8))))) ∧ ((T1 13 4 0) = 119 → (wp_X9_isPairLine T1 (fun p11 T10 => (h_X9_isRead_37 Q n) p11 T10))))) ∧ ((T1 13 4 0) = 107 → (wp_X9_isKnownLine T1 (fun p13 T12 => (h_X9_isRead_37 Q n) p13 T12))))) ∧ ((T1 13 4 0) = 102 → (wp_X9_isFactLine T1 (fun p15 T14 => (h_X9_isRead_37 Q n) p15 T14))))) ∧ ((T1 13 8 0) = 0 → (wp_X9_fails 1 T1 (fun p17 T16 => (h_X9_isRead_37 Q n) p17 T16))))) ∧ ((T1 13 4 0) = 116 → (wp_X9_isPeopleLine T1 (fun p19 T18 => (h_X9_isRead_37 Q n) p19 T18))))) ∧ ((T1 13 4 0) = (-2) → ((h_X9_isRead_37 Q n) false T1)))))
def wp_X9_isRead (T : TH) (Q : Bool → TH → Prop) : Prop :=
  ∀ T1 : TH, T1 = up T 13 2 0 0 → ∀ T2 : TH, T2 = up T1 13 8 0 0 → ∀ T3 : TH, T3 = up T2 13 9 0 0 → ∀ T4 : TH, T4 = up T3 13 11 0 0 → ∀ T5 : TH, T5 = up T4 13 13 0 0 → ∀ T6 : TH, T6 = up T5 13 14 0 0 → ∀ T7 : TH, T7 = up T6 13 16 0 0 → (∃ m9 : Nat, h_X9_isRead_37 Q m9 true T7)
set_option maxRecDepth 100000 in
theorem t_X9_isRead_198 {G : GT} {l0 : Launch} {X : CX} (C : CT G l0 X cX9_isRead 2 RX9 (rM 4 89)) {Q : Bool → TH → Prop} (E : EN G X (some .boolean) (QZ G Q)) {K37 : Bool → TH → Prop} (k37 : ∀ (z1 : Bool) (T : TH), K37 z1 T → V G X T 37 [(0, .ref (gad G 13)), (1, .int (zI (zi z1)))] []) {y0 : Bool} {T : TH} (h : b_X9_isRead_198 Q K37 y0 T) : V G X T 198 [(0, .ref (gad G 13))] [.int (zI (zi y0))] := by
  unfold b_X9_isRead_198 at h
  refine v_istore_n C dX9_isRead_198 rfl (by decide) ?_
  refine v_goto (tgt := 37) C dX9_isRead_199 (by decide) ?_
  exact v_sub [1, 0] rfl (k37 _ _ h)
set_option maxRecDepth 100000 in
theorem t_X9_isRead_37 {G : GT} {l0 : Launch} {X : CX} (C : CT G l0 X cX9_isRead 2 RX9 (rM 4 89)) {Q : Bool → TH → Prop} (E : EN G X (some .boolean) (QZ G Q)) : ∀ (n : Nat) (z1 : Bool) (T : TH), h_X9_isRead_37 Q n z1 T → V G X T 37 [(0, .ref (gad G 13)), (1, .int (zI (zi z1)))] [] := by
  intro n
  induction n with
  | zero =>
    intro z1 T h
    exact h.elim
  | succ n ih =>
    intro z1 T h
    rw [h_X9_isRead_37] at h
    refine v_iload_n C 1 dX9_isRead_37 rfl ?_
    obtain ⟨e1, e2⟩ := h
    refine v_ifz_eq (tgt := 202) C dX9_isRead_38 (by decide) (fun e3 => ?_) (fun e3 => ?_)
    · have h := e1 e3
      refine v_aload_n C 0 dX9_isRead_202 rfl ?_
      refine v_getI C kX9 6 rfl rfl wd_822 rfl dX9_isRead_203 ?_
      refine v_iconst C dX9_isRead_206 ?_
      obtain ⟨e4, e5, e6⟩ := h
      refine v_icmp_ne (tgt := 214) C dX9_isRead_207 (by decide) e4 ⟨by decide, by decide⟩ (fun e7 => ?_) (fun e7 => ?_)
      · have h := e5 e7
        refine v_iconst C dX9_isRead_214 ?_
        exact v_zret (z := false) C E dX9_isRead_215 h
      · have h := e6 e7
        refine v_iconst C dX9_isRead_210 ?_
        refine v_goto (tgt := 215) C dX9_isRead_211 (by decide) ?_
        exact v_zret (z := true) C E dX9_isRead_215 h
    · have h := e2 e3
      refine v_aload_n C 0 dX9_isRead_41 rfl ?_
      refine v_cVN C kX9 rfl (s_X9_nextToken G l0 h) mv_X9_nextToken wd_950 ⟨by decide, by decide⟩ rfl rfl (Nat.le_of_ble_eq_true rfl) dX9_isRead_42 (fun T1 h => ?_)
      refine v_aload_n C 0 dX9_isRead_45 rfl ?_
      refine v_getI C kX9 4 rfl rfl wd_820 rfl dX9_isRead_46 ?_
      refine v_bipush C dX9_isRead_49 (by decide) ?_
      obtain ⟨e8, e9, e10⟩ := h
      refine v_icmp_ne (tgt := 59) C dX9_isRead_51 (by decide) e8 ⟨by decide, by decide⟩ (fun e11 => ?_) (fun e11 => ?_)
      · have h := e9 e11
        refine v_aload_n C 0 dX9_isRead_59 rfl ?_
        refine v_getI C kX9 4 rfl rfl wd_820 rfl dX9_isRead_60 ?_
        refine v_bipush C dX9_isRead_63 (by decide) ?_
        obtain ⟨e12, e13, e14⟩ := h
        refine v_icmp_ne (tgt := 76) C dX9_isRead_65 (by decide) e12 ⟨by decide, by decide⟩ (fun e15 => ?_) (fun e15 => ?_)
        · have h := e13 e15
          refine v_aload_n C 0 dX9_isRead_76 rfl ?_
          refine v_getI C kX9 8 rfl rfl wd_824 rfl dX9_isRead_77 ?_
          obtain ⟨e16, e17, e18⟩ := h
          refine v_if_ne (tgt := 92) C dX9_isRead_80 (by decide) e16 (fun e19 => ?_) (fun e19 => ?_)
          · have h := e17 e19
            refine v_aload_n C 0 dX9_isRead_92 rfl ?_
            refine v_getI C kX9 4 rfl rfl wd_820 rfl dX9_isRead_93 ?_
            refine v_bipush C dX9_isRead_96 (by decide) ?_
            obtain ⟨e20, e21, e22⟩ := h
            refine v_icmp_ne (tgt := 109) C dX9_isRead_98 (by decide) e20 ⟨by decide, by decide⟩ (fun e23 => ?_) (fun e23 => ?_)
            · have h := e21 e23
              refine v_aload_n C 0 dX9_isRead_109 rfl ?_
              refine v_getI C kX9 4 rfl rfl wd_820 rfl dX9_isRead_110 ?_
              refine v_bipush C dX9_isRead_113 (by decide) ?_
              obtain ⟨e24, e25, e26⟩ := h
              refine v_icmp_ne (tgt := 126) C dX9_isRead_115 (by decide) e24 ⟨by decide, by decide⟩ (fun e27 => ?_) (fun e27 => ?_)
              · have h := e25 e27
                refine v_aload_n C 0 dX9_isRead_126 rfl ?_
                refine v_getI C kX9 4 rfl rfl wd_820 rfl dX9_isRead_127 ?_
                refine v_bipush C dX9_isRead_130 (by decide) ?_
                obtain ⟨e28, e29, e30⟩ := h
                refine v_icmp_ne (tgt := 143) C dX9_isRead_132 (by decide) e28 ⟨by decide, by decide⟩ (fun e31 => ?_) (fun e31 => ?_)
                · have h := e29 e31
                  refine v_aload_n C 0 dX9_isRead_143 rfl ?_
                  refine v_getI C kX9 4 rfl rfl wd_820 rfl dX9_isRead_144 ?_
                  refine v_bipush C dX9_isRead_147 (by decide) ?_
                  obtain ⟨e32, e33, e34⟩ := h
                  refine v_icmp_ne (tgt := 160) C dX9_isRead_149 (by decide) e32 ⟨by decide, by decide⟩ (fun e35 => ?_) (fun e35 => ?_)
                  · have h := e33 e35
                    refine v_aload_n C 0 dX9_isRead_160 rfl ?_
                    refine v_getI C kX9 4 rfl rfl wd_820 rfl dX9_isRead_161 ?_
                    refine v_bipush C dX9_isRead_164 (by decide) ?_
                    obtain ⟨e36, e37, e38⟩ := h
                    refine v_icmp_ne (tgt := 177) C dX9_isRead_166 (by decide) e36 ⟨by decide, by decide⟩ (fun e39 => ?_) (fun e39 => ?_)
                    · have h := e37 e39
                      refine v_aload_n C 0 dX9_isRead_177 rfl ?_
                      refine v_getI C kX9 4 rfl rfl wd_820 rfl dX9_isRead_178 ?_
                      refine v_bipush C dX9_isRead_181 (by decide) ?_
                      obtain ⟨e40, e41, e42⟩ := h
                      refine v_icmp_ne (tgt := 193) C dX9_isRead_183 (by decide) e40 ⟨by decide, by decide⟩ (fun e43 => ?_) (fun e43 => ?_)
                      · have h := e41 e43
                        refine v_aload_n C 0 dX9_isRead_193 rfl ?_
                        refine v_iconst C dX9_isRead_194 ?_
                        refine v_cVZ C kX9 rfl (s_X9_fails G l0 h) mv_X9_fails wd_958 ⟨by decide, by decide⟩ rfl rfl (Nat.le_of_ble_eq_true rfl) dX9_isRead_195 (fun p3 T2 h => ?_)
                        exact v_sub [0] rfl (t_X9_isRead_198 C E ih h)
                      · have h := e42 e43
                        refine v_aload_n C 0 dX9_isRead_186 rfl ?_
                        refine v_cVZ C kX9 rfl (s_X9_isHoursLine G l0 h) mv_X9_isHoursLine wd_993 ⟨by decide, by decide⟩ rfl rfl (Nat.le_of_ble_eq_true rfl) dX9_isRead_187 (fun p5 T4 h => ?_)
                        refine v_goto (tgt := 198) C dX9_isRead_190 (by decide) ?_
                        exact v_sub [0] rfl (t_X9_isRead_198 C E ih h)
                    · have h := e38 e39
                      refine v_aload_n C 0 dX9_isRead_169 rfl ?_
                      refine v_cVZ C kX9 rfl (s_X9_isBridgeLine G l0 h) mv_X9_isBridgeLine wd_989 ⟨by decide, by decide⟩ rfl rfl (Nat.le_of_ble_eq_true rfl) dX9_isRead_170 (fun p7 T6 h => ?_)
                      refine v_istore_n C dX9_isRead_173 rfl (by decide) ?_
                      refine v_goto (tgt := 37) C dX9_isRead_174 (by decide) ?_
                      exact v_sub [1, 0] rfl (ih _ _ h)
                  · have h := e34 e35
                    refine v_aload_n C 0 dX9_isRead_152 rfl ?_
                    refine v_cVZ C kX9 rfl (s_X9_isQuietLine G l0 h) mv_X9_isQuietLine wd_982 ⟨by decide, by decide⟩ rfl rfl (Nat.le_of_ble_eq_true rfl) dX9_isRead_153 (fun p9 T8 h => ?_)
                    refine v_istore_n C dX9_isRead_156 rfl (by decide) ?_
                    refine v_goto (tgt := 37) C dX9_isRead_157 (by decide) ?_
                    exact v_sub [1, 0] rfl (ih _ _ h)
                · have h := e30 e31
                  refine v_aload_n C 0 dX9_isRead_135 rfl ?_
                  refine v_cVZ C kX9 rfl (s_X9_isPairLine G l0 h) mv_X9_isPairLine wd_978 ⟨by decide, by decide⟩ rfl rfl (Nat.le_of_ble_eq_true rfl) dX9_isRead_136 (fun p11 T10 h => ?_)
                  refine v_istore_n C dX9_isRead_139 rfl (by decide) ?_
                  refine v_goto (tgt := 37) C dX9_isRead_140 (by decide) ?_
                  exact v_sub [1, 0] rfl (ih _ _ h)
              · have h := e26 e27
                refine v_aload_n C 0 dX9_isRead_118 rfl ?_
                refine v_cVZ C kX9 rfl (s_X9_isKnownLine G l0 h) mv_X9_isKnownLine wd_974 ⟨by decide, by decide⟩ rfl rfl (Nat.le_of_ble_eq_true rfl) dX9_isRead_119 (fun p13 T12 h => ?_)
                refine v_istore_n C dX9_isRead_122 rfl (by decide) ?_
                refine v_goto (tgt := 37) C dX9_isRead_123 (by decide) ?_
                exact v_sub [1, 0] rfl (ih _ _ h)
            · have h := e22 e23
              refine v_aload_n C 0 dX9_isRead_101 rfl ?_
              refine v_cVZ C kX9 rfl (s_X9_isFactLine G l0 h) mv_X9_isFactLine wd_970 ⟨by decide, by decide⟩ rfl rfl (Nat.le_of_ble_eq_true rfl) dX9_isRead_102 (fun p15 T14 h => ?_)
              refine v_istore_n C dX9_isRead_105 rfl (by decide) ?_
              refine v_goto (tgt := 37) C dX9_isRead_106 (by decide) ?_
              exact v_sub [1, 0] rfl (ih _ _ h)
          · have h := e18 e19
            refine v_aload_n C 0 dX9_isRead_83 rfl ?_
            refine v_iconst C dX9_isRead_84 ?_
            refine v_cVZ C kX9 rfl (s_X9_fails G l0 h) mv_X9_fails wd_958 ⟨by decide, by decide⟩ rfl rfl (Nat.le_of_ble_eq_true rfl) dX9_isRead_85 (fun p17 T16 h => ?_)
            refine v_istore_n C dX9_isRead_88 rfl (by decide) ?_
            refine v_goto (tgt := 37) C dX9_isRead_89 (by decide) ?_
            exact v_sub [1, 0] rfl (ih _ _ h)
        · have h := e14 e15
          refine v_aload_n C 0 dX9_isRead_68 rfl ?_
          refine v_cVZ C kX9 rfl (s_X9_isPeopleLine G l0 h) mv_X9_isPeopleLine wd_954 ⟨by decide, by decide⟩ rfl rfl (Nat.le_of_ble_eq_true rfl) dX9_isRead_69 (fun p19 T18 h => ?_)
          refine v_istore_n C dX9_isRead_72 rfl (by decide) ?_
          refine v_goto (tgt := 37) C dX9_isRead_73 (by decide) ?_
          exact v_sub [1, 0] rfl (ih _ _ h)
      · have h := e10 e11
        refine v_iconst C dX9_isRead_54 ?_
        refine v_istore_n C dX9_isRead_55 rfl (by decide) ?_
        refine v_goto (tgt := 37) C dX9_isRead_56 (by decide) ?_
        exact v_sub [1, 0] rfl (ih _ _ h)
set_option maxRecDepth 100000 in
theorem s_X9_isRead (G : GT) (l0 : Launch) {T : TH} {Q : Bool → TH → Prop} (h : wp_X9_isRead T Q) : MT G l0 yX9_isRead cX9_isRead 2 (some .boolean) 4 89 [.ref (gad G 13)] T (QZ G Q) := by
  refine mt_of G l0 (by decide) (Nat.le_of_ble_eq_true rfl) (fun X C E => ?_)
  show V G X T 0 [(0, .ref (gad G 13))] []
  unfold wp_X9_isRead at h
  refine v_aload_n C 0 dX9_isRead_0 rfl ?_
  refine v_iconst C dX9_isRead_1 ?_
  refine v_putI C kX9 2 rfl rfl wd_818 rfl rfl (tyX9_ok 2 (by decide)) dX9_isRead_2 ?_
  have h := h _ rfl
  refine v_aload_n C 0 dX9_isRead_5 rfl ?_
  refine v_iconst C dX9_isRead_6 ?_
  refine v_putI C kX9 8 rfl rfl wd_824 rfl rfl (tyX9_ok 8 (by decide)) dX9_isRead_7 ?_
  have h := h _ rfl
  refine v_aload_n C 0 dX9_isRead_10 rfl ?_
  refine v_iconst C dX9_isRead_11 ?_
  refine v_putI C kX9 9 rfl rfl wd_825 rfl rfl (tyX9_ok 9 (by decide)) dX9_isRead_12 ?_
  have h := h _ rfl
  refine v_aload_n C 0 dX9_isRead_15 rfl ?_
  refine v_iconst C dX9_isRead_16 ?_
  refine v_putI C kX9 11 rfl rfl wd_827 rfl rfl (tyX9_ok 11 (by decide)) dX9_isRead_17 ?_
  have h := h _ rfl
  refine v_aload_n C 0 dX9_isRead_20 rfl ?_
  refine v_iconst C dX9_isRead_21 ?_
  refine v_putI C kX9 13 rfl rfl wd_829 rfl rfl (tyX9_ok 13 (by decide)) dX9_isRead_22 ?_
  have h := h _ rfl
  refine v_aload_n C 0 dX9_isRead_25 rfl ?_
  refine v_iconst C dX9_isRead_26 ?_
  refine v_putI C kX9 14 rfl rfl wd_830 rfl rfl (tyX9_ok 14 (by decide)) dX9_isRead_27 ?_
  have h := h _ rfl
  refine v_aload_n C 0 dX9_isRead_30 rfl ?_
  refine v_iconst C dX9_isRead_31 ?_
  refine v_putI C kX9 16 rfl rfl wd_832 rfl rfl (tyX9_ok 16 (by decide)) dX9_isRead_32 ?_
  have h := h _ rfl
  refine v_iconst C dX9_isRead_35 ?_
  refine v_istore_n C dX9_isRead_36 rfl (by decide) ?_
  obtain ⟨n9, h⟩ := h
  exact v_sub [1, 0] rfl (t_X9_isRead_37 C E n9 _ _ h)
def b_X9_land_240 (Q : Int → TH → Prop) (K169 : Int → TH → Prop) (v2 : Int) (T : TH) : Prop :=
  K169 (v2 + 1) T
def b_X9_land_233 (Q : Int → TH → Prop) (K169 : Int → TH → Prop) (K179 : Int → Int → TH → Prop) (v2 : Int) (v3 : Int) (s1 : Int) (s2 : Int) (T : TH) : Prop :=
  0 ≤ s1 ∧ s1 < 58 ∧ ∀ T1 : TH, T1 = up T 13 26 s1 s2 → K179 v2 (v3 + 1) T1
def h_X9_land_179 (Q : Int → TH → Prop) (K169 : Int → TH → Prop) : Nat → Int → Int → TH → Prop
  | 0, _, _, _ => False
  | n + 1, v2, v3, T => zR v3 ∧ zR (T 13 17 0) ∧ ((T 13 17 0) ≤ v3 → (b_X9_land_240 Q K169 v2 T)) ∧ (¬ ((T 13 17 0) ≤ v3) → (0 ≤ ((4 * v2) + 3) ∧ ((4 * v2) + 3) < 32 ∧ zR (T 13 19 ((4 * v2) + 3)) ∧ ((T 13 19 ((4 * v2) + 3)) = (-1) → (b_X9_land_240 Q K169 v2 T)) ∧ (¬ ((T 13 19 ((4 * v2) + 3)) = (-1)) → (0 ≤ ((4 * v2) + 3) ∧ ((4 * v2) + 3) < 32 ∧ wp_X9_has (T 13 19 ((4 * v2) + 3)) v3 T (fun p2 T1 => (p2 = false → (b_X9_land_233 Q K169 (h_X9_land_179 Q K169 n) v2 v3 ((8 * v3) + v2) (-1) T1)) ∧ (p2 = true → (b_X9_land_233 Q K169 (h_X9_land_179 Q K169 n) v2 v3 ((8 * v3) + v2) 0 T1)))))))
def h_X9_land_169 (Q : Int → TH → Prop) : Nat → Int → TH → Prop
  | 0, _, _ => False
  | n + 1, v2, T => zR v2 ∧ zR (T 13 18 0) ∧ ((T 13 18 0) ≤ v2 → (Q (T 13 17 0) T)) ∧ (¬ ((T 13 18 0) ≤ v2) → ((∃ m9 : Nat, h_X9_land_179 Q (h_X9_land_169 Q n) m9 v2 0 T)))
def h_X9_land_137 (Q : Int → TH → Prop) : Nat → Int → TH → Prop
  | 0, _, _ => False
  | n + 1, v2, T => zR v2 ∧ zR (T 13 23 0) ∧ ((T 13 23 0) ≤ v2 → (wp_X9_begin T (fun T1 => (∃ m9 : Nat, h_X9_land_169 Q m9 0 T1)))) ∧ (¬ ((T 13 23 0) ≤ v2) → (0 ≤ v2 ∧ v2 < 4 ∧ 0 ≤ v2 ∧ v2 < 4 ∧ ∀ T2 : TH, T2 = up T 13 24 v2 (T 13 15 v2) → (h_X9_land_137 Q n) (v2 + 1) T2))
def h_X9_land_107 (Q : Int → TH → Prop) : Nat → Int → TH → Prop
  | 0, _, _ => False
  | n + 1, v2, T => zR v2 ∧ zR (2 * (T 13 20 0)) ∧ ((2 * (T 13 20 0)) ≤ v2 → ((∃ m9 : Nat, h_X9_land_137 Q m9 0 T))) ∧ (¬ ((2 * (T 13 20 0)) ≤ v2) → (0 ≤ v2 ∧ v2 < 24 ∧ 0 ≤ v2 ∧ v2 < 24 ∧ ∀ T1 : TH, T1 = up T 13 21 v2 (T 13 12 v2) → (h_X9_land_107 Q n) (v2 + 1) T1))
def h_X9_land_77 (Q : Int → TH → Prop) : Nat → Int → TH → Prop
  | 0, _, _ => False
  | n + 1, v2, T => zR v2 ∧ zR (4 * (T 13 18 0)) ∧ ((4 * (T 13 18 0)) ≤ v2 → ((∃ m9 : Nat, h_X9_land_107 Q m9 0 T))) ∧ (¬ ((4 * (T 13 18 0)) ≤ v2) → (0 ≤ v2 ∧ v2 < 32 ∧ 0 ≤ v2 ∧ v2 < 32 ∧ ∀ T1 : TH, T1 = up T 13 19 v2 (T 13 10 v2) → (h_X9_land_77 Q n) (v2 + 1) T1))
def wp_X9_land (T : TH) (Q : Int → TH → Prop) : Prop :=
  ∀ T1 : TH, T1 = up T 13 6 0 (-1) → wp_X9_isRead T1 (fun p3 T2 => ∀ T4 : TH, T4 = up T2 13 0 0 0 → (p3 = true → (∀ T5 : TH, T5 = up T4 13 17 0 (T4 13 8 0) → ∀ T6 : TH, T6 = up T5 13 18 0 (T5 13 9 0) → ∀ T7 : TH, T7 = up T6 13 20 0 (T6 13 11 0) → ∀ T8 : TH, T8 = up T7 13 22 0 (T7 13 13 0) → ∀ T9 : TH, T9 = up T8 13 23 0 (T8 13 14 0) → ∀ T10 : TH, T10 = up T9 13 25 0 (T9 13 16 0) → (∃ m9 : Nat, h_X9_land_77 Q m9 0 T10))) ∧ (p3 = false → (Q ((-10) - (T4 13 7 0)) T4)))
set_option maxRecDepth 100000 in
theorem t_X9_land_240 {G : GT} {l0 : Launch} {X : CX} (C : CT G l0 X cX9_land 4 RX9 (rM 5 110)) {Q : Int → TH → Prop} (E : EN G X (some .int) (QI G Q)) {K169 : Int → TH → Prop} (k169 : ∀ (v2 : Int) (T : TH), K169 v2 T → V G X T 169 [(0, .ref (gad G 13)), (2, .int (zI v2))] []) {v2 : Int} {T : TH} (h : b_X9_land_240 Q K169 v2 T) : V G X T 240 [(0, .ref (gad G 13)), (2, .int (zI v2))] [] := by
  unfold b_X9_land_240 at h
  refine v_iinc C 1 dX9_land_240 rfl (by decide) ?_
  refine v_goto (tgt := 169) C dX9_land_243 (by decide) ?_
  exact v_sub [1, 0] rfl (k169 _ _ h)
set_option maxRecDepth 100000 in
theorem t_X9_land_233 {G : GT} {l0 : Launch} {X : CX} (C : CT G l0 X cX9_land 4 RX9 (rM 5 110)) {Q : Int → TH → Prop} (E : EN G X (some .int) (QI G Q)) {K169 : Int → TH → Prop} {K179 : Int → Int → TH → Prop} (k169 : ∀ (v2 : Int) (T : TH), K169 v2 T → V G X T 169 [(0, .ref (gad G 13)), (2, .int (zI v2))] []) (k179 : ∀ (v2 : Int) (v3 : Int) (T : TH), K179 v2 v3 T → V G X T 179 [(0, .ref (gad G 13)), (2, .int (zI v2)), (3, .int (zI v3))] []) {v2 : Int} {v3 : Int} {s1 : Int} {s2 : Int} {T : TH} (h : b_X9_land_233 Q K169 K179 v2 v3 s1 s2 T) : V G X T 233 [(0, .ref (gad G 13)), (2, .int (zI v2)), (3, .int (zI v3))] [.int (zI s2), .int (zI s1), .ref (gaa G 13 26)] := by
  unfold b_X9_land_233 at h
  obtain ⟨e1, e2, h⟩ := h
  refine v_iast C (ar_of (o := 13) rfl ar_9_26) dX9_land_233 e1 e2 ?_
  have h := h _ rfl
  refine v_iinc C 2 dX9_land_234 rfl (by decide) ?_
  refine v_goto (tgt := 179) C dX9_land_237 (by decide) ?_
  exact v_sub [1, 2, 0] rfl (k179 _ _ _ h)
set_option maxRecDepth 100000 in
theorem t_X9_land_179 {G : GT} {l0 : Launch} {X : CX} (C : CT G l0 X cX9_land 4 RX9 (rM 5 110)) {Q : Int → TH → Prop} (E : EN G X (some .int) (QI G Q)) {K169 : Int → TH → Prop} (k169 : ∀ (v2 : Int) (T : TH), K169 v2 T → V G X T 169 [(0, .ref (gad G 13)), (2, .int (zI v2))] []) : ∀ (n : Nat) (v2 : Int) (v3 : Int) (T : TH), h_X9_land_179 Q K169 n v2 v3 T → V G X T 179 [(0, .ref (gad G 13)), (2, .int (zI v2)), (3, .int (zI v3))] [] := by
  intro n
  induction n with
  | zero =>
    intro v2 v3 T h
    exact h.elim
  | succ n ih =>
    intro v2 v3 T h
    rw [h_X9_land_179] at h
    refine v_iload_n C 2 dX9_land_179 rfl ?_
    refine v_aload_n C 0 dX9_land_180 rfl ?_
    refine v_getI C kX9 17 rfl rfl wd_833 rfl dX9_land_181 ?_
    obtain ⟨e1, e2, e3, e4⟩ := h
    refine v_icmp_ge (tgt := 240) C dX9_land_184 (by decide) e1 e2 (fun e5 => ?_) (fun e5 => ?_)
    · have h := e3 e5
      exact v_sub [0, 1] rfl (t_X9_land_240 C E k169 h)
    · have h := e4 e5
      refine v_aload_n C 0 dX9_land_187 rfl ?_
      refine v_getA C kX9 19 rfl rfl wd_835 rfl dX9_land_188 ?_
      refine v_iconst C dX9_land_191 ?_
      refine v_iload_n C 1 dX9_land_192 rfl ?_
      refine v_imul C dX9_land_193 ?_
      refine v_iconst C dX9_land_194 ?_
      refine v_iadd C dX9_land_195 ?_
      obtain ⟨e6, e7, h⟩ := h
      refine v_iald C (ar_of (o := 13) rfl ar_9_19) dX9_land_196 e6 e7 ?_
      refine v_iconst C dX9_land_197 ?_
      obtain ⟨e8, e9, e10⟩ := h
      refine v_icmp_eq (tgt := 240) C dX9_land_198 (by decide) e8 ⟨by decide, by decide⟩ (fun e11 => ?_) (fun e11 => ?_)
      · have h := e9 e11
        exact v_sub [0, 1] rfl (t_X9_land_240 C E k169 h)
      · have h := e10 e11
        refine v_aload_n C 0 dX9_land_201 rfl ?_
        refine v_getA C kX9 26 rfl rfl wd_842 rfl dX9_land_202 ?_
        refine v_bipush C dX9_land_205 (by decide) ?_
        refine v_iload_n C 2 dX9_land_207 rfl ?_
        refine v_imul C dX9_land_208 ?_
        refine v_iload_n C 1 dX9_land_209 rfl ?_
        refine v_iadd C dX9_land_210 ?_
        refine v_aload_n C 0 dX9_land_211 rfl ?_
        refine v_getA C kX9 19 rfl rfl wd_835 rfl dX9_land_212 ?_
        refine v_iconst C dX9_land_215 ?_
        refine v_iload_n C 1 dX9_land_216 rfl ?_
        refine v_imul C dX9_land_217 ?_
        refine v_iconst C dX9_land_218 ?_
        refine v_iadd C dX9_land_219 ?_
        obtain ⟨e12, e13, h⟩ := h
        refine v_iald C (ar_of (o := 13) rfl ar_9_19) dX9_land_220 e12 e13 ?_
        refine v_iload_n C 2 dX9_land_221 rfl ?_
        refine v_cSZ C (s_X9_has G l0 h) mv_X9_has wd_986 ⟨by decide, by decide⟩ rfl rfl (Nat.le_of_ble_eq_true rfl) dX9_land_222 (fun p2 T1 h => ?_)
        obtain ⟨e14, e15⟩ := h
        refine v_ifz_eq (tgt := 232) C dX9_land_225 (by decide) (fun e16 => ?_) (fun e16 => ?_)
        · have h := e14 e16
          refine v_iconst C dX9_land_232 ?_
          exact v_sub [0, 1, 2] rfl (t_X9_land_233 C E k169 ih h)
        · have h := e15 e16
          refine v_iconst C dX9_land_228 ?_
          refine v_goto (tgt := 233) C dX9_land_229 (by decide) ?_
          exact v_sub [0, 1, 2] rfl (t_X9_land_233 C E k169 ih h)
set_option maxRecDepth 100000 in
theorem t_X9_land_169 {G : GT} {l0 : Launch} {X : CX} (C : CT G l0 X cX9_land 4 RX9 (rM 5 110)) {Q : Int → TH → Prop} (E : EN G X (some .int) (QI G Q)) : ∀ (n : Nat) (v2 : Int) (T : TH), h_X9_land_169 Q n v2 T → V G X T 169 [(0, .ref (gad G 13)), (2, .int (zI v2))] [] := by
  intro n
  induction n with
  | zero =>
    intro v2 T h
    exact h.elim
  | succ n ih =>
    intro v2 T h
    rw [h_X9_land_169] at h
    refine v_iload_n C 1 dX9_land_169 rfl ?_
    refine v_aload_n C 0 dX9_land_170 rfl ?_
    refine v_getI C kX9 18 rfl rfl wd_834 rfl dX9_land_171 ?_
    obtain ⟨e1, e2, e3, e4⟩ := h
    refine v_icmp_ge (tgt := 246) C dX9_land_174 (by decide) e1 e2 (fun e5 => ?_) (fun e5 => ?_)
    · have h := e3 e5
      refine v_aload_n C 0 dX9_land_246 rfl ?_
      refine v_getI C kX9 17 rfl rfl wd_833 rfl dX9_land_247 ?_
      exact v_iret C E dX9_land_250 h
    · have h := e4 e5
      refine v_iconst C dX9_land_177 ?_
      refine v_istore_n C dX9_land_178 rfl (by decide) ?_
      obtain ⟨n9, h⟩ := h
      exact v_sub [1, 2, 0] rfl (t_X9_land_179 C E ih n9 _ _ _ h)
set_option maxRecDepth 100000 in
theorem t_X9_land_137 {G : GT} {l0 : Launch} {X : CX} (C : CT G l0 X cX9_land 4 RX9 (rM 5 110)) {Q : Int → TH → Prop} (E : EN G X (some .int) (QI G Q)) : ∀ (n : Nat) (v2 : Int) (T : TH), h_X9_land_137 Q n v2 T → V G X T 137 [(0, .ref (gad G 13)), (2, .int (zI v2))] [] := by
  intro n
  induction n with
  | zero =>
    intro v2 T h
    exact h.elim
  | succ n ih =>
    intro v2 T h
    rw [h_X9_land_137] at h
    refine v_iload_n C 1 dX9_land_137 rfl ?_
    refine v_aload_n C 0 dX9_land_138 rfl ?_
    refine v_getI C kX9 23 rfl rfl wd_839 rfl dX9_land_139 ?_
    obtain ⟨e1, e2, e3, e4⟩ := h
    refine v_icmp_ge (tgt := 163) C dX9_land_142 (by decide) e1 e2 (fun e5 => ?_) (fun e5 => ?_)
    · have h := e3 e5
      refine v_aload_n C 0 dX9_land_163 rfl ?_
      refine v_cVN C kX9 rfl (s_X9_begin G l0 h) mv_X9_begin wd_812 ⟨by decide, by decide⟩ rfl rfl (Nat.le_of_ble_eq_true rfl) dX9_land_164 (fun T1 h => ?_)
      refine v_iconst C dX9_land_167 ?_
      refine v_istore_n C dX9_land_168 rfl (by decide) ?_
      obtain ⟨n9, h⟩ := h
      exact v_sub [1, 0] rfl (t_X9_land_169 C E n9 _ _ h)
    · have h := e4 e5
      refine v_aload_n C 0 dX9_land_145 rfl ?_
      refine v_getA C kX9 24 rfl rfl wd_840 rfl dX9_land_146 ?_
      refine v_iload_n C 1 dX9_land_149 rfl ?_
      refine v_aload_n C 0 dX9_land_150 rfl ?_
      refine v_getA C kX9 15 rfl rfl wd_831 rfl dX9_land_151 ?_
      refine v_iload_n C 1 dX9_land_154 rfl ?_
      obtain ⟨e6, e7, h⟩ := h
      refine v_iald C (ar_of (o := 13) rfl ar_9_15) dX9_land_155 e6 e7 ?_
      obtain ⟨e8, e9, h⟩ := h
      refine v_iast C (ar_of (o := 13) rfl ar_9_24) dX9_land_156 e8 e9 ?_
      have h := h _ rfl
      refine v_iinc C 1 dX9_land_157 rfl (by decide) ?_
      refine v_goto (tgt := 137) C dX9_land_160 (by decide) ?_
      exact v_sub [1, 0] rfl (ih _ _ h)
set_option maxRecDepth 100000 in
theorem t_X9_land_107 {G : GT} {l0 : Launch} {X : CX} (C : CT G l0 X cX9_land 4 RX9 (rM 5 110)) {Q : Int → TH → Prop} (E : EN G X (some .int) (QI G Q)) : ∀ (n : Nat) (v2 : Int) (T : TH), h_X9_land_107 Q n v2 T → V G X T 107 [(0, .ref (gad G 13)), (2, .int (zI v2))] [] := by
  intro n
  induction n with
  | zero =>
    intro v2 T h
    exact h.elim
  | succ n ih =>
    intro v2 T h
    rw [h_X9_land_107] at h
    refine v_iload_n C 1 dX9_land_107 rfl ?_
    refine v_iconst C dX9_land_108 ?_
    refine v_aload_n C 0 dX9_land_109 rfl ?_
    refine v_getI C kX9 20 rfl rfl wd_836 rfl dX9_land_110 ?_
    refine v_imul C dX9_land_113 ?_
    obtain ⟨e1, e2, e3, e4⟩ := h
    refine v_icmp_ge (tgt := 135) C dX9_land_114 (by decide) e1 e2 (fun e5 => ?_) (fun e5 => ?_)
    · have h := e3 e5
      refine v_iconst C dX9_land_135 ?_
      refine v_istore_n C dX9_land_136 rfl (by decide) ?_
      obtain ⟨n9, h⟩ := h
      exact v_sub [1, 0] rfl (t_X9_land_137 C E n9 _ _ h)
    · have h := e4 e5
      refine v_aload_n C 0 dX9_land_117 rfl ?_
      refine v_getA C kX9 21 rfl rfl wd_837 rfl dX9_land_118 ?_
      refine v_iload_n C 1 dX9_land_121 rfl ?_
      refine v_aload_n C 0 dX9_land_122 rfl ?_
      refine v_getA C kX9 12 rfl rfl wd_828 rfl dX9_land_123 ?_
      refine v_iload_n C 1 dX9_land_126 rfl ?_
      obtain ⟨e6, e7, h⟩ := h
      refine v_iald C (ar_of (o := 13) rfl ar_9_12) dX9_land_127 e6 e7 ?_
      obtain ⟨e8, e9, h⟩ := h
      refine v_iast C (ar_of (o := 13) rfl ar_9_21) dX9_land_128 e8 e9 ?_
      have h := h _ rfl
      refine v_iinc C 1 dX9_land_129 rfl (by decide) ?_
      refine v_goto (tgt := 107) C dX9_land_132 (by decide) ?_
      exact v_sub [1, 0] rfl (ih _ _ h)
set_option maxRecDepth 100000 in
theorem t_X9_land_77 {G : GT} {l0 : Launch} {X : CX} (C : CT G l0 X cX9_land 4 RX9 (rM 5 110)) {Q : Int → TH → Prop} (E : EN G X (some .int) (QI G Q)) : ∀ (n : Nat) (v2 : Int) (T : TH), h_X9_land_77 Q n v2 T → V G X T 77 [(0, .ref (gad G 13)), (2, .int (zI v2))] [] := by
  intro n
  induction n with
  | zero =>
    intro v2 T h
    exact h.elim
  | succ n ih =>
    intro v2 T h
    rw [h_X9_land_77] at h
    refine v_iload_n C 1 dX9_land_77 rfl ?_
    refine v_iconst C dX9_land_78 ?_
    refine v_aload_n C 0 dX9_land_79 rfl ?_
    refine v_getI C kX9 18 rfl rfl wd_834 rfl dX9_land_80 ?_
    refine v_imul C dX9_land_83 ?_
    obtain ⟨e1, e2, e3, e4⟩ := h
    refine v_icmp_ge (tgt := 105) C dX9_land_84 (by decide) e1 e2 (fun e5 => ?_) (fun e5 => ?_)
    · have h := e3 e5
      refine v_iconst C dX9_land_105 ?_
      refine v_istore_n C dX9_land_106 rfl (by decide) ?_
      obtain ⟨n9, h⟩ := h
      exact v_sub [1, 0] rfl (t_X9_land_107 C E n9 _ _ h)
    · have h := e4 e5
      refine v_aload_n C 0 dX9_land_87 rfl ?_
      refine v_getA C kX9 19 rfl rfl wd_835 rfl dX9_land_88 ?_
      refine v_iload_n C 1 dX9_land_91 rfl ?_
      refine v_aload_n C 0 dX9_land_92 rfl ?_
      refine v_getA C kX9 10 rfl rfl wd_826 rfl dX9_land_93 ?_
      refine v_iload_n C 1 dX9_land_96 rfl ?_
      obtain ⟨e6, e7, h⟩ := h
      refine v_iald C (ar_of (o := 13) rfl ar_9_10) dX9_land_97 e6 e7 ?_
      obtain ⟨e8, e9, h⟩ := h
      refine v_iast C (ar_of (o := 13) rfl ar_9_19) dX9_land_98 e8 e9 ?_
      have h := h _ rfl
      refine v_iinc C 1 dX9_land_99 rfl (by decide) ?_
      refine v_goto (tgt := 77) C dX9_land_102 (by decide) ?_
      exact v_sub [1, 0] rfl (ih _ _ h)
set_option maxRecDepth 100000 in
theorem s_X9_land (G : GT) (l0 : Launch) {T : TH} {Q : Int → TH → Prop} (h : wp_X9_land T Q) : MT G l0 yX9_land cX9_land 4 (some .int) 5 110 [.ref (gad G 13)] T (QI G Q) := by
  refine mt_of G l0 (by decide) (Nat.le_of_ble_eq_true rfl) (fun X C E => ?_)
  show V G X T 0 [(0, .ref (gad G 13))] []
  unfold wp_X9_land at h
  refine v_aload_n C 0 dX9_land_0 rfl ?_
  refine v_iconst C dX9_land_1 ?_
  refine v_putI C kX9 6 rfl rfl wd_822 rfl rfl (tyX9_ok 6 (by decide)) dX9_land_2 ?_
  have h := h _ rfl
  refine v_aload_n C 0 dX9_land_5 rfl ?_
  refine v_cVZ C kX9 rfl (s_X9_isRead G l0 h) mv_X9_isRead wd_946 ⟨by decide, by decide⟩ rfl rfl (Nat.le_of_ble_eq_true rfl) dX9_land_6 (fun p3 T2 h => ?_)
  refine v_istore_n C dX9_land_9 rfl (by decide) ?_
  refine v_aload_n C 1 dX9_land_10 rfl ?_
  refine v_iconst C dX9_land_11 ?_
  refine v_putI C kX9 0 rfl rfl wd_816 rfl rfl (tyX9_ok 0 (by decide)) dX9_land_12 ?_
  have h := h _ rfl
  refine v_iload_n C 0 dX9_land_15 rfl ?_
  obtain ⟨e1, e2⟩ := h
  refine v_ifz_ne (tgt := 27) C dX9_land_16 (by decide) (fun e3 => ?_) (fun e3 => ?_)
  · have h := e1 e3
    refine v_aload_n C 1 dX9_land_27 rfl ?_
    refine v_aload_n C 1 dX9_land_28 rfl ?_
    refine v_getI C kX9 8 rfl rfl wd_824 rfl dX9_land_29 ?_
    refine v_putI C kX9 17 rfl rfl wd_833 rfl rfl (tyX9_ok 17 (by decide)) dX9_land_32 ?_
    have h := h _ rfl
    refine v_aload_n C 1 dX9_land_35 rfl ?_
    refine v_aload_n C 1 dX9_land_36 rfl ?_
    refine v_getI C kX9 9 rfl rfl wd_825 rfl dX9_land_37 ?_
    refine v_putI C kX9 18 rfl rfl wd_834 rfl rfl (tyX9_ok 18 (by decide)) dX9_land_40 ?_
    have h := h _ rfl
    refine v_aload_n C 1 dX9_land_43 rfl ?_
    refine v_aload_n C 1 dX9_land_44 rfl ?_
    refine v_getI C kX9 11 rfl rfl wd_827 rfl dX9_land_45 ?_
    refine v_putI C kX9 20 rfl rfl wd_836 rfl rfl (tyX9_ok 20 (by decide)) dX9_land_48 ?_
    have h := h _ rfl
    refine v_aload_n C 1 dX9_land_51 rfl ?_
    refine v_aload_n C 1 dX9_land_52 rfl ?_
    refine v_getI C kX9 13 rfl rfl wd_829 rfl dX9_land_53 ?_
    refine v_putI C kX9 22 rfl rfl wd_838 rfl rfl (tyX9_ok 22 (by decide)) dX9_land_56 ?_
    have h := h _ rfl
    refine v_aload_n C 1 dX9_land_59 rfl ?_
    refine v_aload_n C 1 dX9_land_60 rfl ?_
    refine v_getI C kX9 14 rfl rfl wd_830 rfl dX9_land_61 ?_
    refine v_putI C kX9 23 rfl rfl wd_839 rfl rfl (tyX9_ok 23 (by decide)) dX9_land_64 ?_
    have h := h _ rfl
    refine v_aload_n C 1 dX9_land_67 rfl ?_
    refine v_aload_n C 1 dX9_land_68 rfl ?_
    refine v_getI C kX9 16 rfl rfl wd_832 rfl dX9_land_69 ?_
    refine v_putI C kX9 25 rfl rfl wd_841 rfl rfl (tyX9_ok 25 (by decide)) dX9_land_72 ?_
    have h := h _ rfl
    refine v_iconst C dX9_land_75 ?_
    refine v_istore_n C dX9_land_76 rfl (by decide) ?_
    obtain ⟨n9, h⟩ := h
    exact v_sub [2, 0] rfl (t_X9_land_77 C E n9 _ _ h)
  · have h := e2 e3
    refine v_bipush C dX9_land_19 (by decide) ?_
    refine v_aload_n C 1 dX9_land_21 rfl ?_
    refine v_getI C kX9 7 rfl rfl wd_823 rfl dX9_land_22 ?_
    refine v_isub C dX9_land_25 ?_
    exact v_iret C E dX9_land_26 h
def wp_X9_fault (T : TH) (Q : Int → TH → Prop) : Prop :=
  Q (T 13 6 0) T
set_option maxRecDepth 100000 in
theorem s_X9_fault (G : GT) (l0 : Launch) {T : TH} {Q : Int → TH → Prop} (h : wp_X9_fault T Q) : MT G l0 yX9_fault cX9_fault 1 (some .int) 0 0 [.ref (gad G 13)] T (QI G Q) := by
  refine mt_of G l0 (by decide) (Nat.le_of_ble_eq_true rfl) (fun X C E => ?_)
  show V G X T 0 [(0, .ref (gad G 13))] []
  unfold wp_X9_fault at h
  refine v_aload_n C 0 dX9_fault_0 rfl ?_
  refine v_getI C kX9 6 rfl rfl wd_822 rfl dX9_fault_1 ?_
  exact v_iret C E dX9_fault_4 h
def wp_X9_personOf (v1 : Int) (T : TH) (Q : Int → TH → Prop) : Prop :=
  0 ≤ (4 * v1) ∧ (4 * v1) < 32 ∧ Q (T 13 19 (4 * v1)) T
set_option maxRecDepth 100000 in
theorem s_X9_personOf (G : GT) (l0 : Launch) {v1 : Int} {T : TH} {Q : Int → TH → Prop} (h : wp_X9_personOf v1 T Q) : MT G l0 yX9_personOf cX9_personOf 2 (some .int) 0 0 [.ref (gad G 13), .int (zI v1)] T (QI G Q) := by
  refine mt_of G l0 (by decide) (Nat.le_of_ble_eq_true rfl) (fun X C E => ?_)
  show V G X T 0 [(0, .ref (gad G 13)), (1, .int (zI v1))] []
  unfold wp_X9_personOf at h
  refine v_aload_n C 0 dX9_personOf_0 rfl ?_
  refine v_getA C kX9 19 rfl rfl wd_835 rfl dX9_personOf_1 ?_
  refine v_iconst C dX9_personOf_4 ?_
  refine v_iload_n C 1 dX9_personOf_5 rfl ?_
  refine v_imul C dX9_personOf_6 ?_
  obtain ⟨e1, e2, h⟩ := h
  refine v_iald C (ar_of (o := 13) rfl ar_9_19) dX9_personOf_7 e1 e2 ?_
  exact v_iret C E dX9_personOf_8 h
def wp_X9_gramsOf (v1 : Int) (T : TH) (Q : Int → TH → Prop) : Prop :=
  0 ≤ ((4 * v1) + 1) ∧ ((4 * v1) + 1) < 32 ∧ Q (T 13 19 ((4 * v1) + 1)) T
set_option maxRecDepth 100000 in
theorem s_X9_gramsOf (G : GT) (l0 : Launch) {v1 : Int} {T : TH} {Q : Int → TH → Prop} (h : wp_X9_gramsOf v1 T Q) : MT G l0 yX9_gramsOf cX9_gramsOf 2 (some .int) 0 0 [.ref (gad G 13), .int (zI v1)] T (QI G Q) := by
  refine mt_of G l0 (by decide) (Nat.le_of_ble_eq_true rfl) (fun X C E => ?_)
  show V G X T 0 [(0, .ref (gad G 13)), (1, .int (zI v1))] []
  unfold wp_X9_gramsOf at h
  refine v_aload_n C 0 dX9_gramsOf_0 rfl ?_
  refine v_getA C kX9 19 rfl rfl wd_835 rfl dX9_gramsOf_1 ?_
  refine v_iconst C dX9_gramsOf_4 ?_
  refine v_iload_n C 1 dX9_gramsOf_5 rfl ?_
  refine v_imul C dX9_gramsOf_6 ?_
  refine v_iconst C dX9_gramsOf_7 ?_
  refine v_iadd C dX9_gramsOf_8 ?_
  obtain ⟨e1, e2, h⟩ := h
  refine v_iald C (ar_of (o := 13) rfl ar_9_19) dX9_gramsOf_9 e1 e2 ?_
  exact v_iret C E dX9_gramsOf_10 h
def wp_X9_isLie (v1 : Int) (T : TH) (Q : Bool → TH → Prop) : Prop :=
  0 ≤ ((4 * v1) + 2) ∧ ((4 * v1) + 2) < 32 ∧ zR (T 13 19 ((4 * v1) + 2)) ∧ (¬ (T 13 19 ((4 * v1) + 2)) = 1 → (Q false T)) ∧ ((T 13 19 ((4 * v1) + 2)) = 1 → (Q true T))
set_option maxRecDepth 100000 in
theorem s_X9_isLie (G : GT) (l0 : Launch) {v1 : Int} {T : TH} {Q : Bool → TH → Prop} (h : wp_X9_isLie v1 T Q) : MT G l0 yX9_isLie cX9_isLie 2 (some .boolean) 0 0 [.ref (gad G 13), .int (zI v1)] T (QZ G Q) := by
  refine mt_of G l0 (by decide) (Nat.le_of_ble_eq_true rfl) (fun X C E => ?_)
  show V G X T 0 [(0, .ref (gad G 13)), (1, .int (zI v1))] []
  unfold wp_X9_isLie at h
  refine v_aload_n C 0 dX9_isLie_0 rfl ?_
  refine v_getA C kX9 19 rfl rfl wd_835 rfl dX9_isLie_1 ?_
  refine v_iconst C dX9_isLie_4 ?_
  refine v_iload_n C 1 dX9_isLie_5 rfl ?_
  refine v_imul C dX9_isLie_6 ?_
  refine v_iconst C dX9_isLie_7 ?_
  refine v_iadd C dX9_isLie_8 ?_
  obtain ⟨e1, e2, h⟩ := h
  refine v_iald C (ar_of (o := 13) rfl ar_9_19) dX9_isLie_9 e1 e2 ?_
  refine v_iconst C dX9_isLie_10 ?_
  obtain ⟨e3, e4, e5⟩ := h
  refine v_icmp_ne (tgt := 18) C dX9_isLie_11 (by decide) e3 ⟨by decide, by decide⟩ (fun e6 => ?_) (fun e6 => ?_)
  · have h := e4 e6
    refine v_iconst C dX9_isLie_18 ?_
    exact v_zret (z := false) C E dX9_isLie_19 h
  · have h := e5 e6
    refine v_iconst C dX9_isLie_14 ?_
    refine v_goto (tgt := 19) C dX9_isLie_15 (by decide) ?_
    exact v_zret (z := true) C E dX9_isLie_19 h
def wp_X9_knows (a0 b0 n0 : Nat) (v1 : Int) (v2 : Int) (T : TH) (Q : Bool → TH → Prop) : Prop :=
  0 ≤ ((8 * v1) + v2) ∧ ((8 * v1) + v2) < n0 ∧ zR (T a0 b0 ((8 * v1) + v2)) ∧ ((T a0 b0 ((8 * v1) + v2)) = (-1) → (Q false T)) ∧ (¬ ((T a0 b0 ((8 * v1) + v2)) = (-1)) → (Q true T))
set_option maxRecDepth 100000 in
theorem s_X9_knows (G : GT) (l0 : Launch) {a0 b0 n0 : Nat} {v1 : Int} {v2 : Int} {T : TH} {Q : Bool → TH → Prop} (ha0 : arT (clsO a0) b0 = some (0, n0)) (h : wp_X9_knows a0 b0 n0 v1 v2 T Q) : MT G l0 yX9_knows cX9_knows 3 (some .boolean) 0 0 [.ref (gaa G a0 b0), .int (zI v1), .int (zI v2)] T (QZ G Q) := by
  refine mt_of G l0 (by decide) (Nat.le_of_ble_eq_true rfl) (fun X C E => ?_)
  show V G X T 0 [(0, .ref (gaa G a0 b0)), (1, .int (zI v1)), (2, .int (zI v2))] []
  unfold wp_X9_knows at h
  refine v_aload_n C 0 dX9_knows_0 rfl ?_
  refine v_bipush C dX9_knows_1 (by decide) ?_
  refine v_iload_n C 1 dX9_knows_3 rfl ?_
  refine v_imul C dX9_knows_4 ?_
  refine v_iload_n C 2 dX9_knows_5 rfl ?_
  refine v_iadd C dX9_knows_6 ?_
  obtain ⟨e1, e2, h⟩ := h
  refine v_iald C ha0 dX9_knows_7 e1 e2 ?_
  refine v_iconst C dX9_knows_8 ?_
  obtain ⟨e3, e4, e5⟩ := h
  refine v_icmp_eq (tgt := 16) C dX9_knows_9 (by decide) e3 ⟨by decide, by decide⟩ (fun e6 => ?_) (fun e6 => ?_)
  · have h := e4 e6
    refine v_iconst C dX9_knows_16 ?_
    exact v_zret (z := false) C E dX9_knows_17 h
  · have h := e5 e6
    refine v_iconst C dX9_knows_12 ?_
    refine v_goto (tgt := 17) C dX9_knows_13 (by decide) ?_
    exact v_zret (z := true) C E dX9_knows_17 h
def b_X9_knowersOf_33 (a1 b1 n1 : Nat) (v2 : Int) (Q : Int → TH → Prop) (K5 : Int → Int → TH → Prop) (v4 : Int) (s0 : Int) (s1 : Int) (T : TH) : Prop :=
  ∀ w1 : Int, w1 = (zor s0 s1) → K5 w1 (v4 + 1) T
def h_X9_knowersOf_5 (a1 b1 n1 : Nat) (v2 : Int) (Q : Int → TH → Prop) : Nat → Int → Int → TH → Prop
  | 0, _, _, _ => False
  | n + 1, v3, v4, T => zR v4 ∧ zR (T 13 17 0) ∧ ((T 13 17 0) ≤ v4 → (Q v3 T)) ∧ (¬ ((T 13 17 0) ≤ v4) → (wp_X9_knows a1 b1 n1 v4 v2 T (fun p2 T1 => (p2 = false → (b_X9_knowersOf_33 a1 b1 n1 v2 Q (h_X9_knowersOf_5 a1 b1 n1 v2 Q n) v4 v3 0 T1)) ∧ (p2 = true → (b_X9_knowersOf_33 a1 b1 n1 v2 Q (h_X9_knowersOf_5 a1 b1 n1 v2 Q n) v4 v3 (zshl 1 v4) T1)))))
def wp_X9_knowersOf (a1 b1 n1 : Nat) (v2 : Int) (T : TH) (Q : Int → TH → Prop) : Prop :=
  (∃ m9 : Nat, h_X9_knowersOf_5 a1 b1 n1 v2 Q m9 0 0 T)
set_option maxRecDepth 100000 in
theorem t_X9_knowersOf_33 {G : GT} {l0 : Launch} {X : CX} (C : CT G l0 X cX9_knowersOf 5 RX9 (rM 1 22)) {Q : Int → TH → Prop} (E : EN G X (some .int) (QI G Q)) {a1 b1 n1 : Nat} {v2 : Int} (ha1 : arT (clsO a1) b1 = some (0, n1)) {K5 : Int → Int → TH → Prop} (k5 : ∀ (v3 : Int) (v4 : Int) (T : TH), K5 v3 v4 T → V G X T 5 [(0, .ref (gad G 13)), (1, .ref (gaa G a1 b1)), (2, .int (zI v2)), (3, .int (zI v3)), (4, .int (zI v4))] []) {v4 : Int} {s0 : Int} {s1 : Int} {T : TH} (h : b_X9_knowersOf_33 a1 b1 n1 v2 Q K5 v4 s0 s1 T) : V G X T 33 [(0, .ref (gad G 13)), (1, .ref (gaa G a1 b1)), (2, .int (zI v2)), (4, .int (zI v4))] [.int (zI s1), .int (zI s0)] := by
  unfold b_X9_knowersOf_33 at h
  refine v_ior C dX9_knowersOf_33 ?_
  refine v_istore_n C dX9_knowersOf_34 rfl (by decide) ?_
  have h := h _ rfl
  refine v_iinc C 4 dX9_knowersOf_35 rfl (by decide) ?_
  refine v_goto (tgt := 5) C dX9_knowersOf_38 (by decide) ?_
  exact v_sub [2, 3, 4, 1, 0] rfl (k5 _ _ _ h)
set_option maxRecDepth 100000 in
theorem t_X9_knowersOf_5 {G : GT} {l0 : Launch} {X : CX} (C : CT G l0 X cX9_knowersOf 5 RX9 (rM 1 22)) {Q : Int → TH → Prop} (E : EN G X (some .int) (QI G Q)) {a1 b1 n1 : Nat} {v2 : Int} (ha1 : arT (clsO a1) b1 = some (0, n1)) : ∀ (n : Nat) (v3 : Int) (v4 : Int) (T : TH), h_X9_knowersOf_5 a1 b1 n1 v2 Q n v3 v4 T → V G X T 5 [(0, .ref (gad G 13)), (1, .ref (gaa G a1 b1)), (2, .int (zI v2)), (3, .int (zI v3)), (4, .int (zI v4))] [] := by
  intro n
  induction n with
  | zero =>
    intro v3 v4 T h
    exact h.elim
  | succ n ih =>
    intro v3 v4 T h
    rw [h_X9_knowersOf_5] at h
    refine v_iload C 4 dX9_knowersOf_5 rfl ?_
    refine v_aload_n C 0 dX9_knowersOf_7 rfl ?_
    refine v_getI C kX9 17 rfl rfl wd_833 rfl dX9_knowersOf_8 ?_
    obtain ⟨e1, e2, e3, e4⟩ := h
    refine v_icmp_ge (tgt := 41) C dX9_knowersOf_11 (by decide) e1 e2 (fun e5 => ?_) (fun e5 => ?_)
    · have h := e3 e5
      refine v_iload_n C 3 dX9_knowersOf_41 rfl ?_
      exact v_iret C E dX9_knowersOf_42 h
    · have h := e4 e5
      refine v_iload_n C 3 dX9_knowersOf_14 rfl ?_
      refine v_aload_n C 1 dX9_knowersOf_15 rfl ?_
      refine v_iload C 4 dX9_knowersOf_16 rfl ?_
      refine v_iload_n C 2 dX9_knowersOf_18 rfl ?_
      refine v_cSZ C (s_X9_knows G l0 ha1 h) mv_X9_knows wd_1013 ⟨by decide, by decide⟩ rfl rfl (Nat.le_of_ble_eq_true rfl) dX9_knowersOf_19 (fun p2 T1 h => ?_)
      obtain ⟨e6, e7⟩ := h
      refine v_ifz_eq (tgt := 32) C dX9_knowersOf_22 (by decide) (fun e8 => ?_) (fun e8 => ?_)
      · have h := e6 e8
        refine v_iconst C dX9_knowersOf_32 ?_
        exact v_sub [0, 1, 2, 4] rfl (t_X9_knowersOf_33 C E ha1 ih h)
      · have h := e7 e8
        refine v_iconst C dX9_knowersOf_25 ?_
        refine v_iload C 4 dX9_knowersOf_26 rfl ?_
        refine v_ishl C dX9_knowersOf_28 ?_
        refine v_goto (tgt := 33) C dX9_knowersOf_29 (by decide) ?_
        exact v_sub [0, 1, 2, 4] rfl (t_X9_knowersOf_33 C E ha1 ih h)
set_option maxRecDepth 100000 in
theorem s_X9_knowersOf (G : GT) (l0 : Launch) {a1 b1 n1 : Nat} {v2 : Int} {T : TH} {Q : Int → TH → Prop} (ha1 : arT (clsO a1) b1 = some (0, n1)) (h : wp_X9_knowersOf a1 b1 n1 v2 T Q) : MT G l0 yX9_knowersOf cX9_knowersOf 5 (some .int) 1 22 [.ref (gad G 13), .ref (gaa G a1 b1), .int (zI v2)] T (QI G Q) := by
  refine mt_of G l0 (by decide) (Nat.le_of_ble_eq_true rfl) (fun X C E => ?_)
  show V G X T 0 [(0, .ref (gad G 13)), (1, .ref (gaa G a1 b1)), (2, .int (zI v2))] []
  unfold wp_X9_knowersOf at h
  refine v_iconst C dX9_knowersOf_0 ?_
  refine v_istore_n C dX9_knowersOf_1 rfl (by decide) ?_
  refine v_iconst C dX9_knowersOf_2 ?_
  refine v_istore C dX9_knowersOf_3 (by decide) ?_
  obtain ⟨n9, h⟩ := h
  exact v_sub [2, 3, 4, 1, 0] rfl (t_X9_knowersOf_5 C E ha1 n9 _ _ _ h)
def b_X9_headsOf_40 (a1 b1 n1 : Nat) (v2 : Int) (Q : Int → TH → Prop) (K5 : Int → Int → TH → Prop) (v4 : Int) (s0 : Int) (y1 : Bool) (T : TH) : Prop :=
  ∀ w1 : Int, w1 = (s0 + (zi y1)) → K5 w1 (v4 + 1) T
def b_X9_headsOf_39 (a1 b1 n1 : Nat) (v2 : Int) (Q : Int → TH → Prop) (K5 : Int → Int → TH → Prop) (v4 : Int) (s0 : Int) (T : TH) : Prop :=
  b_X9_headsOf_40 a1 b1 n1 v2 Q K5 v4 s0 false T
def h_X9_headsOf_5 (a1 b1 n1 : Nat) (v2 : Int) (Q : Int → TH → Prop) : Nat → Int → Int → TH → Prop
  | 0, _, _, _ => False
  | n + 1, v3, v4, T => zR v4 ∧ zR (T 13 17 0) ∧ ((T 13 17 0) ≤ v4 → (Q v3 T)) ∧ (¬ ((T 13 17 0) ≤ v4) → (wp_X9_personOf v2 T (fun r2 T1 => zR v4 ∧ zR r2 ∧ (v4 = r2 → (b_X9_headsOf_39 a1 b1 n1 v2 Q (h_X9_headsOf_5 a1 b1 n1 v2 Q n) v4 v3 T1)) ∧ (¬ (v4 = r2) → (wp_X9_knows a1 b1 n1 v4 v2 T1 (fun p4 T3 => (p4 = false → (b_X9_headsOf_39 a1 b1 n1 v2 Q (h_X9_headsOf_5 a1 b1 n1 v2 Q n) v4 v3 T3)) ∧ (p4 = true → (b_X9_headsOf_40 a1 b1 n1 v2 Q (h_X9_headsOf_5 a1 b1 n1 v2 Q n) v4 v3 true T3))))))))
def wp_X9_headsOf (a1 b1 n1 : Nat) (v2 : Int) (T : TH) (Q : Int → TH → Prop) : Prop :=
  (∃ m9 : Nat, h_X9_headsOf_5 a1 b1 n1 v2 Q m9 0 0 T)
set_option maxRecDepth 100000 in
theorem t_X9_headsOf_40 {G : GT} {l0 : Launch} {X : CX} (C : CT G l0 X cX9_headsOf 5 RX9 (rM 1 22)) {Q : Int → TH → Prop} (E : EN G X (some .int) (QI G Q)) {a1 b1 n1 : Nat} {v2 : Int} (ha1 : arT (clsO a1) b1 = some (0, n1)) {K5 : Int → Int → TH → Prop} (k5 : ∀ (v3 : Int) (v4 : Int) (T : TH), K5 v3 v4 T → V G X T 5 [(0, .ref (gad G 13)), (1, .ref (gaa G a1 b1)), (2, .int (zI v2)), (3, .int (zI v3)), (4, .int (zI v4))] []) {v4 : Int} {s0 : Int} {y1 : Bool} {T : TH} (h : b_X9_headsOf_40 a1 b1 n1 v2 Q K5 v4 s0 y1 T) : V G X T 40 [(0, .ref (gad G 13)), (1, .ref (gaa G a1 b1)), (2, .int (zI v2)), (4, .int (zI v4))] [.int (zI (zi y1)), .int (zI s0)] := by
  unfold b_X9_headsOf_40 at h
  refine v_iadd C dX9_headsOf_40 ?_
  refine v_istore_n C dX9_headsOf_41 rfl (by decide) ?_
  have h := h _ rfl
  refine v_iinc C 4 dX9_headsOf_42 rfl (by decide) ?_
  refine v_goto (tgt := 5) C dX9_headsOf_45 (by decide) ?_
  exact v_sub [2, 3, 4, 1, 0] rfl (k5 _ _ _ h)
set_option maxRecDepth 100000 in
theorem t_X9_headsOf_39 {G : GT} {l0 : Launch} {X : CX} (C : CT G l0 X cX9_headsOf 5 RX9 (rM 1 22)) {Q : Int → TH → Prop} (E : EN G X (some .int) (QI G Q)) {a1 b1 n1 : Nat} {v2 : Int} (ha1 : arT (clsO a1) b1 = some (0, n1)) {K5 : Int → Int → TH → Prop} (k5 : ∀ (v3 : Int) (v4 : Int) (T : TH), K5 v3 v4 T → V G X T 5 [(0, .ref (gad G 13)), (1, .ref (gaa G a1 b1)), (2, .int (zI v2)), (3, .int (zI v3)), (4, .int (zI v4))] []) {v4 : Int} {s0 : Int} {T : TH} (h : b_X9_headsOf_39 a1 b1 n1 v2 Q K5 v4 s0 T) : V G X T 39 [(0, .ref (gad G 13)), (1, .ref (gaa G a1 b1)), (2, .int (zI v2)), (4, .int (zI v4))] [.int (zI s0)] := by
  unfold b_X9_headsOf_39 at h
  refine v_iconst C dX9_headsOf_39 ?_
  exact v_sub [0, 1, 2, 3] rfl (t_X9_headsOf_40 C E ha1 k5 h)
set_option maxRecDepth 100000 in
theorem t_X9_headsOf_5 {G : GT} {l0 : Launch} {X : CX} (C : CT G l0 X cX9_headsOf 5 RX9 (rM 1 22)) {Q : Int → TH → Prop} (E : EN G X (some .int) (QI G Q)) {a1 b1 n1 : Nat} {v2 : Int} (ha1 : arT (clsO a1) b1 = some (0, n1)) : ∀ (n : Nat) (v3 : Int) (v4 : Int) (T : TH), h_X9_headsOf_5 a1 b1 n1 v2 Q n v3 v4 T → V G X T 5 [(0, .ref (gad G 13)), (1, .ref (gaa G a1 b1)), (2, .int (zI v2)), (3, .int (zI v3)), (4, .int (zI v4))] [] := by
  intro n
  induction n with
  | zero =>
    intro v3 v4 T h
    exact h.elim
  | succ n ih =>
    intro v3 v4 T h
    rw [h_X9_headsOf_5] at h
    refine v_iload C 4 dX9_headsOf_5 rfl ?_
    refine v_aload_n C 0 dX9_headsOf_7 rfl ?_
    refine v_getI C kX9 17 rfl rfl wd_833 rfl dX9_headsOf_8 ?_
    obtain ⟨e1, e2, e3, e4⟩ := h
    refine v_icmp_ge (tgt := 48) C dX9_headsOf_11 (by decide) e1 e2 (fun e5 => ?_) (fun e5 => ?_)
    · have h := e3 e5
      refine v_iload_n C 3 dX9_headsOf_48 rfl ?_
      exact v_iret C E dX9_headsOf_49 h
    · have h := e4 e5
      refine v_iload_n C 3 dX9_headsOf_14 rfl ?_
      refine v_iload C 4 dX9_headsOf_15 rfl ?_
      refine v_aload_n C 0 dX9_headsOf_17 rfl ?_
      refine v_iload_n C 2 dX9_headsOf_18 rfl ?_
      refine v_cVI C kX9 rfl (s_X9_personOf G l0 h) mv_X9_personOf wd_1009 ⟨by decide, by decide⟩ rfl rfl (Nat.le_of_ble_eq_true rfl) dX9_headsOf_19 (fun r2 T1 h => ?_)
      obtain ⟨e6, e7, e8, e9⟩ := h
      refine v_icmp_eq (tgt := 39) C dX9_headsOf_22 (by decide) e6 e7 (fun e10 => ?_) (fun e10 => ?_)
      · have h := e8 e10
        exact v_sub [0, 1, 2, 4] rfl (t_X9_headsOf_39 C E ha1 ih h)
      · have h := e9 e10
        refine v_aload_n C 1 dX9_headsOf_25 rfl ?_
        refine v_iload C 4 dX9_headsOf_26 rfl ?_
        refine v_iload_n C 2 dX9_headsOf_28 rfl ?_
        refine v_cSZ C (s_X9_knows G l0 ha1 h) mv_X9_knows wd_1013 ⟨by decide, by decide⟩ rfl rfl (Nat.le_of_ble_eq_true rfl) dX9_headsOf_29 (fun p4 T3 h => ?_)
        obtain ⟨e11, e12⟩ := h
        refine v_ifz_eq (tgt := 39) C dX9_headsOf_32 (by decide) (fun e13 => ?_) (fun e13 => ?_)
        · have h := e11 e13
          exact v_sub [0, 1, 2, 4] rfl (t_X9_headsOf_39 C E ha1 ih h)
        · have h := e12 e13
          refine v_iconst C dX9_headsOf_35 ?_
          refine v_goto (tgt := 40) C dX9_headsOf_36 (by decide) ?_
          exact v_sub [0, 1, 2, 4] rfl (t_X9_headsOf_40 C E ha1 ih h)
set_option maxRecDepth 100000 in
theorem s_X9_headsOf (G : GT) (l0 : Launch) {a1 b1 n1 : Nat} {v2 : Int} {T : TH} {Q : Int → TH → Prop} (ha1 : arT (clsO a1) b1 = some (0, n1)) (h : wp_X9_headsOf a1 b1 n1 v2 T Q) : MT G l0 yX9_headsOf cX9_headsOf 5 (some .int) 1 22 [.ref (gad G 13), .ref (gaa G a1 b1), .int (zI v2)] T (QI G Q) := by
  refine mt_of G l0 (by decide) (Nat.le_of_ble_eq_true rfl) (fun X C E => ?_)
  show V G X T 0 [(0, .ref (gad G 13)), (1, .ref (gaa G a1 b1)), (2, .int (zI v2))] []
  unfold wp_X9_headsOf at h
  refine v_iconst C dX9_headsOf_0 ?_
  refine v_istore_n C dX9_headsOf_1 rfl (by decide) ?_
  refine v_iconst C dX9_headsOf_2 ?_
  refine v_istore C dX9_headsOf_3 (by decide) ?_
  obtain ⟨n9, h⟩ := h
  exact v_sub [2, 3, 4, 1, 0] rfl (t_X9_headsOf_5 C E ha1 n9 _ _ _ h)
def b_X9_weightOf_62 (a1 b1 n1 : Nat) (v2 : Int) (Q : Int → TH → Prop) (K5 : Int → Int → TH → Prop) (v4 : Int) (s0 : Int) (s1 : Int) (T : TH) : Prop :=
  ∀ w1 : Int, w1 = (s0 + s1) → K5 w1 (v4 + 1) T
def b_X9_weightOf_42 (a1 b1 n1 : Nat) (v2 : Int) (Q : Int → TH → Prop) (K5 : Int → Int → TH → Prop) (v3 : Int) (v4 : Int) (s0 : Int) (T : TH) : Prop :=
  wp_X9_isLie v4 T (fun p2 T1 => (p2 = false → (b_X9_weightOf_62 a1 b1 n1 v2 Q K5 v4 v3 s0 T1)) ∧ (p2 = true → (b_X9_weightOf_62 a1 b1 n1 v2 Q K5 v4 v3 (-s0) T1)))
def h_X9_weightOf_5 (a1 b1 n1 : Nat) (v2 : Int) (Q : Int → TH → Prop) : Nat → Int → Int → TH → Prop
  | 0, _, _, _ => False
  | n + 1, v3, v4, T => zR v4 ∧ zR (T 13 18 0) ∧ ((T 13 18 0) ≤ v4 → (Q v3 T)) ∧ (¬ ((T 13 18 0) ≤ v4) → (wp_X9_personOf v4 T (fun r2 T1 => zR r2 ∧ zR v2 ∧ (¬ r2 = v2 → (b_X9_weightOf_42 a1 b1 n1 v2 Q (h_X9_weightOf_5 a1 b1 n1 v2 Q n) v3 v4 0 T1)) ∧ (r2 = v2 → (wp_X9_gramsOf v4 T1 (fun r4 T3 => wp_X9_headsOf a1 b1 n1 v4 T3 (fun r6 T5 => b_X9_weightOf_42 a1 b1 n1 v2 Q (h_X9_weightOf_5 a1 b1 n1 v2 Q n) v3 v4 (r4 * r6) T5)))))))
def wp_X9_weightOf (a1 b1 n1 : Nat) (v2 : Int) (T : TH) (Q : Int → TH → Prop) : Prop :=
  (∃ m9 : Nat, h_X9_weightOf_5 a1 b1 n1 v2 Q m9 0 0 T)
set_option maxRecDepth 100000 in
theorem t_X9_weightOf_62 {G : GT} {l0 : Launch} {X : CX} (C : CT G l0 X cX9_weightOf 6 RX9 (rM 2 46)) {Q : Int → TH → Prop} (E : EN G X (some .int) (QI G Q)) {a1 b1 n1 : Nat} {v2 : Int} (ha1 : arT (clsO a1) b1 = some (0, n1)) {K5 : Int → Int → TH → Prop} (k5 : ∀ (v3 : Int) (v4 : Int) (T : TH), K5 v3 v4 T → V G X T 5 [(0, .ref (gad G 13)), (1, .ref (gaa G a1 b1)), (2, .int (zI v2)), (3, .int (zI v3)), (4, .int (zI v4))] []) {v4 : Int} {s0 : Int} {s1 : Int} {T : TH} (h : b_X9_weightOf_62 a1 b1 n1 v2 Q K5 v4 s0 s1 T) : V G X T 62 [(0, .ref (gad G 13)), (1, .ref (gaa G a1 b1)), (2, .int (zI v2)), (4, .int (zI v4))] [.int (zI s1), .int (zI s0)] := by
  unfold b_X9_weightOf_62 at h
  refine v_iadd C dX9_weightOf_62 ?_
  refine v_istore_n C dX9_weightOf_63 rfl (by decide) ?_
  have h := h _ rfl
  refine v_iinc C 4 dX9_weightOf_64 rfl (by decide) ?_
  refine v_goto (tgt := 5) C dX9_weightOf_67 (by decide) ?_
  exact v_sub [2, 3, 4, 1, 0] rfl (k5 _ _ _ h)
set_option maxRecDepth 100000 in
theorem t_X9_weightOf_42 {G : GT} {l0 : Launch} {X : CX} (C : CT G l0 X cX9_weightOf 6 RX9 (rM 2 46)) {Q : Int → TH → Prop} (E : EN G X (some .int) (QI G Q)) {a1 b1 n1 : Nat} {v2 : Int} (ha1 : arT (clsO a1) b1 = some (0, n1)) {K5 : Int → Int → TH → Prop} (k5 : ∀ (v3 : Int) (v4 : Int) (T : TH), K5 v3 v4 T → V G X T 5 [(0, .ref (gad G 13)), (1, .ref (gaa G a1 b1)), (2, .int (zI v2)), (3, .int (zI v3)), (4, .int (zI v4))] []) {v3 : Int} {v4 : Int} {s0 : Int} {T : TH} (h : b_X9_weightOf_42 a1 b1 n1 v2 Q K5 v3 v4 s0 T) : V G X T 42 [(0, .ref (gad G 13)), (1, .ref (gaa G a1 b1)), (2, .int (zI v2)), (3, .int (zI v3)), (4, .int (zI v4))] [.int (zI s0)] := by
  unfold b_X9_weightOf_42 at h
  refine v_istore C dX9_weightOf_42 (by decide) ?_
  refine v_iload_n C 4 dX9_weightOf_44 rfl ?_
  refine v_aload_n C 1 dX9_weightOf_45 rfl ?_
  refine v_iload C 5 dX9_weightOf_46 rfl ?_
  refine v_cVZ C kX9 rfl (s_X9_isLie G l0 h) mv_X9_isLie wd_1057 ⟨by decide, by decide⟩ rfl rfl (Nat.le_of_ble_eq_true rfl) dX9_weightOf_48 (fun p2 T1 h => ?_)
  obtain ⟨e1, e2⟩ := h
  refine v_ifz_eq (tgt := 60) C dX9_weightOf_51 (by decide) (fun e3 => ?_) (fun e3 => ?_)
  · have h := e1 e3
    refine v_iload C 0 dX9_weightOf_60 rfl ?_
    exact v_sub [1, 2, 3, 5] rfl (t_X9_weightOf_62 C E ha1 k5 h)
  · have h := e2 e3
    refine v_iload C 0 dX9_weightOf_54 rfl ?_
    refine v_ineg C dX9_weightOf_56 ?_
    refine v_goto (tgt := 62) C dX9_weightOf_57 (by decide) ?_
    exact v_sub [1, 2, 3, 5] rfl (t_X9_weightOf_62 C E ha1 k5 h)
set_option maxRecDepth 100000 in
theorem t_X9_weightOf_5 {G : GT} {l0 : Launch} {X : CX} (C : CT G l0 X cX9_weightOf 6 RX9 (rM 2 46)) {Q : Int → TH → Prop} (E : EN G X (some .int) (QI G Q)) {a1 b1 n1 : Nat} {v2 : Int} (ha1 : arT (clsO a1) b1 = some (0, n1)) : ∀ (n : Nat) (v3 : Int) (v4 : Int) (T : TH), h_X9_weightOf_5 a1 b1 n1 v2 Q n v3 v4 T → V G X T 5 [(0, .ref (gad G 13)), (1, .ref (gaa G a1 b1)), (2, .int (zI v2)), (3, .int (zI v3)), (4, .int (zI v4))] [] := by
  intro n
  induction n with
  | zero =>
    intro v3 v4 T h
    exact h.elim
  | succ n ih =>
    intro v3 v4 T h
    rw [h_X9_weightOf_5] at h
    refine v_iload C 4 dX9_weightOf_5 rfl ?_
    refine v_aload_n C 0 dX9_weightOf_7 rfl ?_
    refine v_getI C kX9 18 rfl rfl wd_834 rfl dX9_weightOf_8 ?_
    obtain ⟨e1, e2, e3, e4⟩ := h
    refine v_icmp_ge (tgt := 70) C dX9_weightOf_11 (by decide) e1 e2 (fun e5 => ?_) (fun e5 => ?_)
    · have h := e3 e5
      refine v_iload_n C 3 dX9_weightOf_70 rfl ?_
      exact v_iret C E dX9_weightOf_71 h
    · have h := e4 e5
      refine v_aload_n C 0 dX9_weightOf_14 rfl ?_
      refine v_iload C 4 dX9_weightOf_15 rfl ?_
      refine v_cVI C kX9 rfl (s_X9_personOf G l0 h) mv_X9_personOf wd_1009 ⟨by decide, by decide⟩ rfl rfl (Nat.le_of_ble_eq_true rfl) dX9_weightOf_17 (fun r2 T1 h => ?_)
      refine v_iload_n C 2 dX9_weightOf_20 rfl ?_
      obtain ⟨e6, e7, e8, e9⟩ := h
      refine v_icmp_ne (tgt := 41) C dX9_weightOf_21 (by decide) e6 e7 (fun e10 => ?_) (fun e10 => ?_)
      · have h := e8 e10
        refine v_iconst C dX9_weightOf_41 ?_
        exact v_sub [0, 1, 2, 3, 4] rfl (t_X9_weightOf_42 C E ha1 ih h)
      · have h := e9 e10
        refine v_aload_n C 0 dX9_weightOf_24 rfl ?_
        refine v_iload C 4 dX9_weightOf_25 rfl ?_
        refine v_cVI C kX9 rfl (s_X9_gramsOf G l0 h) mv_X9_gramsOf wd_1053 ⟨by decide, by decide⟩ rfl rfl (Nat.le_of_ble_eq_true rfl) dX9_weightOf_27 (fun r4 T3 h => ?_)
        refine v_aload_n C 0 dX9_weightOf_30 rfl ?_
        refine v_aload_n C 1 dX9_weightOf_31 rfl ?_
        refine v_iload C 4 dX9_weightOf_32 rfl ?_
        refine v_cVI C kX9 rfl (s_X9_headsOf G l0 ha1 h) mv_X9_headsOf wd_1005 ⟨by decide, by decide⟩ rfl rfl (Nat.le_of_ble_eq_true rfl) dX9_weightOf_34 (fun r6 T5 h => ?_)
        refine v_imul C dX9_weightOf_37 ?_
        refine v_goto (tgt := 42) C dX9_weightOf_38 (by decide) ?_
        exact v_sub [0, 1, 2, 3, 4] rfl (t_X9_weightOf_42 C E ha1 ih h)
set_option maxRecDepth 100000 in
theorem s_X9_weightOf (G : GT) (l0 : Launch) {a1 b1 n1 : Nat} {v2 : Int} {T : TH} {Q : Int → TH → Prop} (ha1 : arT (clsO a1) b1 = some (0, n1)) (h : wp_X9_weightOf a1 b1 n1 v2 T Q) : MT G l0 yX9_weightOf cX9_weightOf 6 (some .int) 2 46 [.ref (gad G 13), .ref (gaa G a1 b1), .int (zI v2)] T (QI G Q) := by
  refine mt_of G l0 (by decide) (Nat.le_of_ble_eq_true rfl) (fun X C E => ?_)
  show V G X T 0 [(0, .ref (gad G 13)), (1, .ref (gaa G a1 b1)), (2, .int (zI v2))] []
  unfold wp_X9_weightOf at h
  refine v_iconst C dX9_weightOf_0 ?_
  refine v_istore_n C dX9_weightOf_1 rfl (by decide) ?_
  refine v_iconst C dX9_weightOf_2 ?_
  refine v_istore C dX9_weightOf_3 (by decide) ?_
  obtain ⟨n9, h⟩ := h
  exact v_sub [2, 3, 4, 1, 0] rfl (t_X9_weightOf_5 C E ha1 n9 _ _ _ h)
def b_X9_friendsOf_72 (v1 : Int) (Q : Int → TH → Prop) (K4 : Int → Int → TH → Prop) (v3 : Int) (s0 : Int) (s1 : Int) (T : TH) : Prop :=
  ∀ w1 : Int, w1 = (zor s0 s1) → K4 w1 (v3 + 1) T
def b_X9_friendsOf_41 (v1 : Int) (Q : Int → TH → Prop) (K4 : Int → Int → TH → Prop) (v3 : Int) (s0 : Int) (s1 : Int) (T : TH) : Prop :=
  ∀ w1 : Int, w1 = (zor s0 s1) → 0 ≤ ((2 * v3) + 1) ∧ ((2 * v3) + 1) < 24 ∧ zR (T 13 21 ((2 * v3) + 1)) ∧ zR v1 ∧ (¬ (T 13 21 ((2 * v3) + 1)) = v1 → (b_X9_friendsOf_72 v1 Q K4 v3 w1 0 T)) ∧ ((T 13 21 ((2 * v3) + 1)) = v1 → (0 ≤ (2 * v3) ∧ (2 * v3) < 24 ∧ b_X9_friendsOf_72 v1 Q K4 v3 w1 (zshl 1 (T 13 21 (2 * v3))) T))
def h_X9_friendsOf_4 (v1 : Int) (Q : Int → TH → Prop) : Nat → Int → Int → TH → Prop
  | 0, _, _, _ => False
  | n + 1, v2, v3, T => zR v3 ∧ zR (T 13 20 0) ∧ ((T 13 20 0) ≤ v3 → (Q v2 T)) ∧ (¬ ((T 13 20 0) ≤ v3) → (0 ≤ (2 * v3) ∧ (2 * v3) < 24 ∧ zR (T 13 21 (2 * v3)) ∧ zR v1 ∧ (¬ (T 13 21 (2 * v3)) = v1 → (b_X9_friendsOf_41 v1 Q (h_X9_friendsOf_4 v1 Q n) v3 v2 0 T)) ∧ ((T 13 21 (2 * v3)) = v1 → (0 ≤ ((2 * v3) + 1) ∧ ((2 * v3) + 1) < 24 ∧ b_X9_friendsOf_41 v1 Q (h_X9_friendsOf_4 v1 Q n) v3 v2 (zshl 1 (T 13 21 ((2 * v3) + 1))) T))))
def wp_X9_friendsOf (v1 : Int) (T : TH) (Q : Int → TH → Prop) : Prop :=
  (∃ m9 : Nat, h_X9_friendsOf_4 v1 Q m9 0 0 T)
set_option maxRecDepth 100000 in
theorem t_X9_friendsOf_72 {G : GT} {l0 : Launch} {X : CX} (C : CT G l0 X cX9_friendsOf 4 RX9 (rM 0 0)) {Q : Int → TH → Prop} (E : EN G X (some .int) (QI G Q)) {v1 : Int} {K4 : Int → Int → TH → Prop} (k4 : ∀ (v2 : Int) (v3 : Int) (T : TH), K4 v2 v3 T → V G X T 4 [(0, .ref (gad G 13)), (1, .int (zI v1)), (2, .int (zI v2)), (3, .int (zI v3))] []) {v3 : Int} {s0 : Int} {s1 : Int} {T : TH} (h : b_X9_friendsOf_72 v1 Q K4 v3 s0 s1 T) : V G X T 72 [(0, .ref (gad G 13)), (1, .int (zI v1)), (3, .int (zI v3))] [.int (zI s1), .int (zI s0)] := by
  unfold b_X9_friendsOf_72 at h
  refine v_ior C dX9_friendsOf_72 ?_
  refine v_istore_n C dX9_friendsOf_73 rfl (by decide) ?_
  have h := h _ rfl
  refine v_iinc C 3 dX9_friendsOf_74 rfl (by decide) ?_
  refine v_goto (tgt := 4) C dX9_friendsOf_77 (by decide) ?_
  exact v_sub [2, 3, 1, 0] rfl (k4 _ _ _ h)
set_option maxRecDepth 100000 in
theorem t_X9_friendsOf_41 {G : GT} {l0 : Launch} {X : CX} (C : CT G l0 X cX9_friendsOf 4 RX9 (rM 0 0)) {Q : Int → TH → Prop} (E : EN G X (some .int) (QI G Q)) {v1 : Int} {K4 : Int → Int → TH → Prop} (k4 : ∀ (v2 : Int) (v3 : Int) (T : TH), K4 v2 v3 T → V G X T 4 [(0, .ref (gad G 13)), (1, .int (zI v1)), (2, .int (zI v2)), (3, .int (zI v3))] []) {v3 : Int} {s0 : Int} {s1 : Int} {T : TH} (h : b_X9_friendsOf_41 v1 Q K4 v3 s0 s1 T) : V G X T 41 [(0, .ref (gad G 13)), (1, .int (zI v1)), (3, .int (zI v3))] [.int (zI s1), .int (zI s0)] := by
  unfold b_X9_friendsOf_41 at h
  refine v_ior C dX9_friendsOf_41 ?_
  refine v_istore_n C dX9_friendsOf_42 rfl (by decide) ?_
  have h := h _ rfl
  refine v_iload_n C 0 dX9_friendsOf_43 rfl ?_
  refine v_aload_n C 1 dX9_friendsOf_44 rfl ?_
  refine v_getA C kX9 21 rfl rfl wd_837 rfl dX9_friendsOf_45 ?_
  refine v_iconst C dX9_friendsOf_48 ?_
  refine v_iload_n C 3 dX9_friendsOf_49 rfl ?_
  refine v_imul C dX9_friendsOf_50 ?_
  refine v_iconst C dX9_friendsOf_51 ?_
  refine v_iadd C dX9_friendsOf_52 ?_
  obtain ⟨e1, e2, h⟩ := h
  refine v_iald C (ar_of (o := 13) rfl ar_9_21) dX9_friendsOf_53 e1 e2 ?_
  refine v_iload_n C 2 dX9_friendsOf_54 rfl ?_
  obtain ⟨e3, e4, e5, e6⟩ := h
  refine v_icmp_ne (tgt := 71) C dX9_friendsOf_55 (by decide) e3 e4 (fun e7 => ?_) (fun e7 => ?_)
  · have h := e5 e7
    refine v_iconst C dX9_friendsOf_71 ?_
    exact v_sub [1, 2, 3] rfl (t_X9_friendsOf_72 C E k4 h)
  · have h := e6 e7
    refine v_iconst C dX9_friendsOf_58 ?_
    refine v_aload_n C 1 dX9_friendsOf_59 rfl ?_
    refine v_getA C kX9 21 rfl rfl wd_837 rfl dX9_friendsOf_60 ?_
    refine v_iconst C dX9_friendsOf_63 ?_
    refine v_iload_n C 3 dX9_friendsOf_64 rfl ?_
    refine v_imul C dX9_friendsOf_65 ?_
    obtain ⟨e8, e9, h⟩ := h
    refine v_iald C (ar_of (o := 13) rfl ar_9_21) dX9_friendsOf_66 e8 e9 ?_
    refine v_ishl C dX9_friendsOf_67 ?_
    refine v_goto (tgt := 72) C dX9_friendsOf_68 (by decide) ?_
    exact v_sub [1, 2, 3] rfl (t_X9_friendsOf_72 C E k4 h)
set_option maxRecDepth 100000 in
theorem t_X9_friendsOf_4 {G : GT} {l0 : Launch} {X : CX} (C : CT G l0 X cX9_friendsOf 4 RX9 (rM 0 0)) {Q : Int → TH → Prop} (E : EN G X (some .int) (QI G Q)) {v1 : Int} : ∀ (n : Nat) (v2 : Int) (v3 : Int) (T : TH), h_X9_friendsOf_4 v1 Q n v2 v3 T → V G X T 4 [(0, .ref (gad G 13)), (1, .int (zI v1)), (2, .int (zI v2)), (3, .int (zI v3))] [] := by
  intro n
  induction n with
  | zero =>
    intro v2 v3 T h
    exact h.elim
  | succ n ih =>
    intro v2 v3 T h
    rw [h_X9_friendsOf_4] at h
    refine v_iload_n C 3 dX9_friendsOf_4 rfl ?_
    refine v_aload_n C 0 dX9_friendsOf_5 rfl ?_
    refine v_getI C kX9 20 rfl rfl wd_836 rfl dX9_friendsOf_6 ?_
    obtain ⟨e1, e2, e3, e4⟩ := h
    refine v_icmp_ge (tgt := 80) C dX9_friendsOf_9 (by decide) e1 e2 (fun e5 => ?_) (fun e5 => ?_)
    · have h := e3 e5
      refine v_iload_n C 2 dX9_friendsOf_80 rfl ?_
      exact v_iret C E dX9_friendsOf_81 h
    · have h := e4 e5
      refine v_iload_n C 2 dX9_friendsOf_12 rfl ?_
      refine v_aload_n C 0 dX9_friendsOf_13 rfl ?_
      refine v_getA C kX9 21 rfl rfl wd_837 rfl dX9_friendsOf_14 ?_
      refine v_iconst C dX9_friendsOf_17 ?_
      refine v_iload_n C 3 dX9_friendsOf_18 rfl ?_
      refine v_imul C dX9_friendsOf_19 ?_
      obtain ⟨e6, e7, h⟩ := h
      refine v_iald C (ar_of (o := 13) rfl ar_9_21) dX9_friendsOf_20 e6 e7 ?_
      refine v_iload_n C 1 dX9_friendsOf_21 rfl ?_
      obtain ⟨e8, e9, e10, e11⟩ := h
      refine v_icmp_ne (tgt := 40) C dX9_friendsOf_22 (by decide) e8 e9 (fun e12 => ?_) (fun e12 => ?_)
      · have h := e10 e12
        refine v_iconst C dX9_friendsOf_40 ?_
        exact v_sub [0, 1, 3] rfl (t_X9_friendsOf_41 C E ih h)
      · have h := e11 e12
        refine v_iconst C dX9_friendsOf_25 ?_
        refine v_aload_n C 0 dX9_friendsOf_26 rfl ?_
        refine v_getA C kX9 21 rfl rfl wd_837 rfl dX9_friendsOf_27 ?_
        refine v_iconst C dX9_friendsOf_30 ?_
        refine v_iload_n C 3 dX9_friendsOf_31 rfl ?_
        refine v_imul C dX9_friendsOf_32 ?_
        refine v_iconst C dX9_friendsOf_33 ?_
        refine v_iadd C dX9_friendsOf_34 ?_
        obtain ⟨e13, e14, h⟩ := h
        refine v_iald C (ar_of (o := 13) rfl ar_9_21) dX9_friendsOf_35 e13 e14 ?_
        refine v_ishl C dX9_friendsOf_36 ?_
        refine v_goto (tgt := 41) C dX9_friendsOf_37 (by decide) ?_
        exact v_sub [0, 1, 3] rfl (t_X9_friendsOf_41 C E ih h)
set_option maxRecDepth 100000 in
theorem s_X9_friendsOf (G : GT) (l0 : Launch) {v1 : Int} {T : TH} {Q : Int → TH → Prop} (h : wp_X9_friendsOf v1 T Q) : MT G l0 yX9_friendsOf cX9_friendsOf 4 (some .int) 0 0 [.ref (gad G 13), .int (zI v1)] T (QI G Q) := by
  refine mt_of G l0 (by decide) (Nat.le_of_ble_eq_true rfl) (fun X C E => ?_)
  show V G X T 0 [(0, .ref (gad G 13)), (1, .int (zI v1))] []
  unfold wp_X9_friendsOf at h
  refine v_iconst C dX9_friendsOf_0 ?_
  refine v_istore_n C dX9_friendsOf_1 rfl (by decide) ?_
  refine v_iconst C dX9_friendsOf_2 ?_
  refine v_istore_n C dX9_friendsOf_3 rfl (by decide) ?_
  obtain ⟨n9, h⟩ := h
  exact v_sub [2, 3, 1, 0] rfl (t_X9_friendsOf_4 C E n9 _ _ _ h)
def h_X9_copy_3 (a0 b0 n0 : Nat) (v1 : Int) (a2 b2 n2 : Nat) (v3 : Int) (Q : TH → Prop) : Nat → Int → TH → Prop
  | 0, _, _ => False
  | n + 1, v4, T => zR v4 ∧ (58 ≤ v4 → (Q T)) ∧ (¬ (58 ≤ v4) → (0 ≤ (v1 + v4) ∧ (v1 + v4) < n0 ∧ 0 ≤ (v3 + v4) ∧ (v3 + v4) < n2 ∧ ∀ T1 : TH, T1 = up T a2 b2 (v3 + v4) (T a0 b0 (v1 + v4)) → (h_X9_copy_3 a0 b0 n0 v1 a2 b2 n2 v3 Q n) (v4 + 1) T1))
def wp_X9_copy (a0 b0 n0 : Nat) (v1 : Int) (a2 b2 n2 : Nat) (v3 : Int) (T : TH) (Q : TH → Prop) : Prop :=
  (∃ m9 : Nat, h_X9_copy_3 a0 b0 n0 v1 a2 b2 n2 v3 Q m9 0 T)
set_option maxRecDepth 100000 in
theorem t_X9_copy_3 {G : GT} {l0 : Launch} {X : CX} (C : CT G l0 X cX9_copy 5 RX9 (rM 0 0)) {Q : TH → Prop} (E : EN G X none (QV G Q)) {a0 b0 n0 : Nat} {v1 : Int} {a2 b2 n2 : Nat} {v3 : Int} (ha0 : arT (clsO a0) b0 = some (0, n0)) (ha2 : arT (clsO a2) b2 = some (0, n2)) : ∀ (n : Nat) (v4 : Int) (T : TH), h_X9_copy_3 a0 b0 n0 v1 a2 b2 n2 v3 Q n v4 T → V G X T 3 [(0, .ref (gaa G a0 b0)), (1, .int (zI v1)), (2, .ref (gaa G a2 b2)), (3, .int (zI v3)), (4, .int (zI v4))] [] := by
  intro n
  induction n with
  | zero =>
    intro v4 T h
    exact h.elim
  | succ n ih =>
    intro v4 T h
    rw [h_X9_copy_3] at h
    refine v_iload C 4 dX9_copy_3 rfl ?_
    refine v_bipush C dX9_copy_5 (by decide) ?_
    obtain ⟨e1, e2, e3⟩ := h
    refine v_icmp_ge (tgt := 28) C dX9_copy_7 (by decide) e1 ⟨by decide, by decide⟩ (fun e4 => ?_) (fun e4 => ?_)
    · have h := e2 e4
      exact v_vret C E dX9_copy_28 h
    · have h := e3 e4
      refine v_aload_n C 2 dX9_copy_10 rfl ?_
      refine v_iload_n C 3 dX9_copy_11 rfl ?_
      refine v_iload C 4 dX9_copy_12 rfl ?_
      refine v_iadd C dX9_copy_14 ?_
      refine v_aload_n C 0 dX9_copy_15 rfl ?_
      refine v_iload_n C 1 dX9_copy_16 rfl ?_
      refine v_iload C 4 dX9_copy_17 rfl ?_
      refine v_iadd C dX9_copy_19 ?_
      obtain ⟨e5, e6, h⟩ := h
      refine v_iald C ha0 dX9_copy_20 e5 e6 ?_
      obtain ⟨e7, e8, h⟩ := h
      refine v_iast C ha2 dX9_copy_21 e7 e8 ?_
      have h := h _ rfl
      refine v_iinc C 4 dX9_copy_22 rfl (by decide) ?_
      refine v_goto (tgt := 3) C dX9_copy_25 (by decide) ?_
      exact v_sub [1, 2, 3, 4, 0] rfl (ih _ _ h)
set_option maxRecDepth 100000 in
theorem s_X9_copy (G : GT) (l0 : Launch) {a0 b0 n0 : Nat} {v1 : Int} {a2 b2 n2 : Nat} {v3 : Int} {T : TH} {Q : TH → Prop} (ha0 : arT (clsO a0) b0 = some (0, n0)) (ha2 : arT (clsO a2) b2 = some (0, n2)) (h : wp_X9_copy a0 b0 n0 v1 a2 b2 n2 v3 T Q) : MT G l0 yX9_copy cX9_copy 5 none 0 0 [.ref (gaa G a0 b0), .int (zI v1), .ref (gaa G a2 b2), .int (zI v3)] T (QV G Q) := by
  refine mt_of G l0 (by decide) (Nat.le_of_ble_eq_true rfl) (fun X C E => ?_)
  show V G X T 0 [(0, .ref (gaa G a0 b0)), (1, .int (zI v1)), (2, .ref (gaa G a2 b2)), (3, .int (zI v3))] []
  unfold wp_X9_copy at h
  refine v_iconst C dX9_copy_0 ?_
  refine v_istore C dX9_copy_1 (by decide) ?_
  obtain ⟨n9, h⟩ := h
  exact v_sub [1, 2, 3, 4, 0] rfl (t_X9_copy_3 C E ha0 ha2 n9 _ _ h)
def h_X9_tells_55 (v1 : Int) (Q : TH → Prop) : Nat → Int → Int → Int → TH → Prop
  | 0, _, _, _, _ => False
  | n + 1, v3, v4, v5, T => wp_X9_has v4 v5 T (fun p2 T1 => (p2 = true → (0 ≤ ((8 * v5) + v3) ∧ ((8 * v5) + v3) < 58 ∧ ∀ T3 : TH, T3 = up T1 13 27 ((8 * v5) + v3) (T1 13 27 56) → Q T3)) ∧ (p2 = false → ((h_X9_tells_55 v1 Q n) v3 v4 (v5 + 1) T1)))
def b_X9_tells_45 (v1 : Int) (Q : TH → Prop) (K8 : Int → Int → TH → Prop) (v2 : Int) (v3 : Int) (s0 : Int) (T : TH) : Prop :=
  zR s0 ∧ (s0 = 0 → (K8 v2 (v3 + 1) T)) ∧ (¬ (s0 = 0) → ((∃ m9 : Nat, h_X9_tells_55 v1 Q m9 v3 s0 0 T)))
def h_X9_tells_8 (v1 : Int) (Q : TH → Prop) : Nat → Int → Int → TH → Prop
  | 0, _, _, _ => False
  | n + 1, v2, v3, T => zR v3 ∧ zR (T 13 18 0) ∧ ((T 13 18 0) ≤ v3 → (Q T)) ∧ (¬ ((T 13 18 0) ≤ v3) → (wp_X9_knows 13 28 58 v1 v3 T (fun p2 T1 => (p2 = false → (b_X9_tells_45 v1 Q (h_X9_tells_8 v1 Q n) v2 v3 0 T1)) ∧ (p2 = true → (wp_X9_knowersOf 13 28 58 v3 T1 (fun r4 T3 => b_X9_tells_45 v1 Q (h_X9_tells_8 v1 Q n) v2 v3 (zand v2 (zxor r4 (-1))) T3))))))
def wp_X9_tells (v1 : Int) (T : TH) (Q : TH → Prop) : Prop :=
  wp_X9_friendsOf v1 T (fun r2 T1 => (∃ m9 : Nat, h_X9_tells_8 v1 Q m9 r2 0 T1))
set_option maxRecDepth 100000 in
theorem t_X9_tells_55 {G : GT} {l0 : Launch} {X : CX} (C : CT G l0 X cX9_tells 6 RX9 (rM 2 46)) {Q : TH → Prop} (E : EN G X none (QV G Q)) {v1 : Int} : ∀ (n : Nat) (v3 : Int) (v4 : Int) (v5 : Int) (T : TH), h_X9_tells_55 v1 Q n v3 v4 v5 T → V G X T 55 [(0, .ref (gad G 13)), (1, .int (zI v1)), (3, .int (zI v3)), (4, .int (zI v4)), (5, .int (zI v5))] [] := by
  intro n
  induction n with
  | zero =>
    intro v3 v4 v5 T h
    exact h.elim
  | succ n ih =>
    intro v3 v4 v5 T h
    rw [h_X9_tells_55] at h
    refine v_iload C 3 dX9_tells_55 rfl ?_
    refine v_iload C 4 dX9_tells_57 rfl ?_
    refine v_cSZ C (s_X9_has G l0 h) mv_X9_has wd_986 ⟨by decide, by decide⟩ rfl rfl (Nat.le_of_ble_eq_true rfl) dX9_tells_59 (fun p2 T1 h => ?_)
    obtain ⟨e1, e2⟩ := h
    refine v_ifz_ne (tgt := 71) C dX9_tells_62 (by decide) (fun e3 => ?_) (fun e3 => ?_)
    · have h := e1 e3
      refine v_aload_n C 0 dX9_tells_71 rfl ?_
      refine v_getA C kX9 27 rfl rfl wd_843 rfl dX9_tells_72 ?_
      refine v_bipush C dX9_tells_75 (by decide) ?_
      refine v_iload C 4 dX9_tells_77 rfl ?_
      refine v_imul C dX9_tells_79 ?_
      refine v_iload_n C 2 dX9_tells_80 rfl ?_
      refine v_iadd C dX9_tells_81 ?_
      refine v_aload_n C 0 dX9_tells_82 rfl ?_
      refine v_getA C kX9 27 rfl rfl wd_843 rfl dX9_tells_83 ?_
      refine v_bipush C dX9_tells_86 (by decide) ?_
      refine v_iald C (ar_of (o := 13) rfl ar_9_27) dX9_tells_88 (by decide) (by decide) ?_
      obtain ⟨e4, e5, h⟩ := h
      refine v_iast C (ar_of (o := 13) rfl ar_9_27) dX9_tells_89 e4 e5 ?_
      have h := h _ rfl
      exact v_vret C E dX9_tells_90 h
    · have h := e2 e3
      refine v_iinc C 4 dX9_tells_65 rfl (by decide) ?_
      refine v_goto (tgt := 55) C dX9_tells_68 (by decide) ?_
      exact v_sub [1, 2, 3, 4, 0] rfl (ih _ _ _ _ h)
set_option maxRecDepth 100000 in
theorem t_X9_tells_45 {G : GT} {l0 : Launch} {X : CX} (C : CT G l0 X cX9_tells 6 RX9 (rM 2 46)) {Q : TH → Prop} (E : EN G X none (QV G Q)) {v1 : Int} {K8 : Int → Int → TH → Prop} (k8 : ∀ (v2 : Int) (v3 : Int) (T : TH), K8 v2 v3 T → V G X T 8 [(0, .ref (gad G 13)), (1, .int (zI v1)), (2, .int (zI v2)), (3, .int (zI v3))] []) {v2 : Int} {v3 : Int} {s0 : Int} {T : TH} (h : b_X9_tells_45 v1 Q K8 v2 v3 s0 T) : V G X T 45 [(0, .ref (gad G 13)), (1, .int (zI v1)), (2, .int (zI v2)), (3, .int (zI v3))] [.int (zI s0)] := by
  unfold b_X9_tells_45 at h
  refine v_istore C dX9_tells_45 (by decide) ?_
  refine v_iload C 0 dX9_tells_47 rfl ?_
  obtain ⟨e1, e2, e3⟩ := h
  refine v_if_eq (tgt := 91) C dX9_tells_49 (by decide) e1 (fun e4 => ?_) (fun e4 => ?_)
  · have h := e2 e4
    refine v_iinc C 4 dX9_tells_91 rfl (by decide) ?_
    refine v_goto (tgt := 8) C dX9_tells_94 (by decide) ?_
    exact v_sub [2, 3, 4, 0] rfl (k8 _ _ _ h)
  · have h := e3 e4
    refine v_iconst C dX9_tells_52 ?_
    refine v_istore C dX9_tells_53 (by decide) ?_
    obtain ⟨n9, h⟩ := h
    exact v_sub [2, 3, 5, 1, 0] rfl (t_X9_tells_55 C E n9 _ _ _ _ h)
set_option maxRecDepth 100000 in
theorem t_X9_tells_8 {G : GT} {l0 : Launch} {X : CX} (C : CT G l0 X cX9_tells 6 RX9 (rM 2 46)) {Q : TH → Prop} (E : EN G X none (QV G Q)) {v1 : Int} : ∀ (n : Nat) (v2 : Int) (v3 : Int) (T : TH), h_X9_tells_8 v1 Q n v2 v3 T → V G X T 8 [(0, .ref (gad G 13)), (1, .int (zI v1)), (2, .int (zI v2)), (3, .int (zI v3))] [] := by
  intro n
  induction n with
  | zero =>
    intro v2 v3 T h
    exact h.elim
  | succ n ih =>
    intro v2 v3 T h
    rw [h_X9_tells_8] at h
    refine v_iload_n C 3 dX9_tells_8 rfl ?_
    refine v_aload_n C 0 dX9_tells_9 rfl ?_
    refine v_getI C kX9 18 rfl rfl wd_834 rfl dX9_tells_10 ?_
    obtain ⟨e1, e2, e3, e4⟩ := h
    refine v_icmp_ge (tgt := 97) C dX9_tells_13 (by decide) e1 e2 (fun e5 => ?_) (fun e5 => ?_)
    · have h := e3 e5
      exact v_vret C E dX9_tells_97 h
    · have h := e4 e5
      refine v_aload_n C 0 dX9_tells_16 rfl ?_
      refine v_getA C kX9 28 rfl rfl wd_844 rfl dX9_tells_17 ?_
      refine v_iload_n C 1 dX9_tells_20 rfl ?_
      refine v_iload_n C 3 dX9_tells_21 rfl ?_
      refine v_cSZ C (s_X9_knows G l0 (ar_of (o := 13) rfl ar_9_28) h) mv_X9_knows wd_1013 ⟨by decide, by decide⟩ rfl rfl (Nat.le_of_ble_eq_true rfl) dX9_tells_22 (fun p2 T1 h => ?_)
      obtain ⟨e6, e7⟩ := h
      refine v_ifz_eq (tgt := 44) C dX9_tells_25 (by decide) (fun e8 => ?_) (fun e8 => ?_)
      · have h := e6 e8
        refine v_iconst C dX9_tells_44 ?_
        exact v_sub [0, 1, 2, 3] rfl (t_X9_tells_45 C E ih h)
      · have h := e7 e8
        refine v_iload_n C 2 dX9_tells_28 rfl ?_
        refine v_aload_n C 0 dX9_tells_29 rfl ?_
        refine v_aload_n C 0 dX9_tells_30 rfl ?_
        refine v_getA C kX9 28 rfl rfl wd_844 rfl dX9_tells_31 ?_
        refine v_iload_n C 3 dX9_tells_34 rfl ?_
        refine v_cVI C kX9 rfl (s_X9_knowersOf G l0 (ar_of (o := 13) rfl ar_9_28) h) mv_X9_knowersOf wd_1025 ⟨by decide, by decide⟩ rfl rfl (Nat.le_of_ble_eq_true rfl) dX9_tells_35 (fun r4 T3 h => ?_)
        refine v_iconst C dX9_tells_38 ?_
        refine v_ixor C dX9_tells_39 ?_
        refine v_iand C dX9_tells_40 ?_
        refine v_goto (tgt := 45) C dX9_tells_41 (by decide) ?_
        exact v_sub [0, 1, 2, 3] rfl (t_X9_tells_45 C E ih h)
set_option maxRecDepth 100000 in
theorem s_X9_tells (G : GT) (l0 : Launch) {v1 : Int} {T : TH} {Q : TH → Prop} (h : wp_X9_tells v1 T Q) : MT G l0 yX9_tells cX9_tells 6 none 2 46 [.ref (gad G 13), .int (zI v1)] T (QV G Q) := by
  refine mt_of G l0 (by decide) (Nat.le_of_ble_eq_true rfl) (fun X C E => ?_)
  show V G X T 0 [(0, .ref (gad G 13)), (1, .int (zI v1))] []
  unfold wp_X9_tells at h
  refine v_aload_n C 0 dX9_tells_0 rfl ?_
  refine v_iload_n C 1 dX9_tells_1 rfl ?_
  refine v_cVI C kX9 rfl (s_X9_friendsOf G l0 h) mv_X9_friendsOf wd_1037 ⟨by decide, by decide⟩ rfl rfl (Nat.le_of_ble_eq_true rfl) dX9_tells_2 (fun r2 T1 h => ?_)
  refine v_istore_n C dX9_tells_5 rfl (by decide) ?_
  refine v_iconst C dX9_tells_6 ?_
  refine v_istore_n C dX9_tells_7 rfl (by decide) ?_
  obtain ⟨n9, h⟩ := h
  exact v_sub [2, 3, 1, 0] rfl (t_X9_tells_8 C E n9 _ _ _ h)
def b_X9_pass_118 (Q : TH → Prop) (K94 : Int → TH → Prop) (v1 : Int) (T : TH) : Prop :=
  K94 (v1 + 1) T
def h_X9_pass_94 (Q : TH → Prop) : Nat → Int → TH → Prop
  | 0, _, _ => False
  | n + 1, v1, T => zR v1 ∧ zR (T 13 17 0) ∧ ((T 13 17 0) ≤ v1 → (Q T)) ∧ (¬ ((T 13 17 0) ≤ v1) → (wp_X9_has (T 13 22 0) v1 T (fun p2 T1 => (p2 = true → (b_X9_pass_118 Q (h_X9_pass_94 Q n) v1 T1)) ∧ (p2 = false → (wp_X9_tells v1 T1 (fun T3 => b_X9_pass_118 Q (h_X9_pass_94 Q n) v1 T3))))))
def b_X9_pass_72 (Q : TH → Prop) (K13 : Int → TH → Prop) (v1 : Int) (s1 : Int) (s2 : Int) (T : TH) : Prop :=
  0 ≤ s1 ∧ s1 < 58 ∧ ∀ T1 : TH, T1 = up T 13 27 s1 s2 → K13 (v1 + 1) T1
def b_X9_pass_66 (Q : TH → Prop) (K13 : Int → TH → Prop) (v1 : Int) (s1 : Int) (T : TH) : Prop :=
  0 ≤ v1 ∧ v1 < 58 ∧ b_X9_pass_72 Q K13 v1 s1 (T 13 27 v1) T
def h_X9_pass_13 (Q : TH → Prop) : Nat → Int → TH → Prop
  | 0, _, _ => False
  | n + 1, v1, T => zR v1 ∧ (56 ≤ v1 → (wp_X9_copy 13 27 58 0 13 28 58 0 T (fun T1 => (∃ m9 : Nat, h_X9_pass_94 Q m9 0 T1)))) ∧ (¬ (56 ≤ v1) → (zR (T 13 25 0) ∧ ((T 13 25 0) ≤ 0 → (b_X9_pass_66 Q (h_X9_pass_13 Q n) v1 v1 T)) ∧ (¬ ((T 13 25 0) ≤ 0) → (0 ≤ v1 ∧ v1 < 58 ∧ zR (T 13 27 v1) ∧ ((T 13 27 v1) = (-1) → (b_X9_pass_66 Q (h_X9_pass_13 Q n) v1 v1 T)) ∧ (¬ ((T 13 27 v1) = (-1)) → (0 ≤ v1 ∧ v1 < 58 ∧ zR ((T 13 27 56) - (T 13 27 v1)) ∧ zR (T 13 25 0) ∧ (((T 13 27 56) - (T 13 27 v1)) < (T 13 25 0) → (b_X9_pass_66 Q (h_X9_pass_13 Q n) v1 v1 T)) ∧ (¬ (((T 13 27 56) - (T 13 27 v1)) < (T 13 25 0)) → (b_X9_pass_72 Q (h_X9_pass_13 Q n) v1 v1 (-1) T))))))))
def wp_X9_pass (T : TH) (Q : TH → Prop) : Prop :=
  ∀ T1 : TH, T1 = up T 13 27 56 ((T 13 27 56) + 1) → (∃ m9 : Nat, h_X9_pass_13 Q m9 0 T1)
set_option maxRecDepth 100000 in
theorem t_X9_pass_118 {G : GT} {l0 : Launch} {X : CX} (C : CT G l0 X cX9_pass 2 RX9 (rM 3 71)) {Q : TH → Prop} (E : EN G X none (QV G Q)) {K94 : Int → TH → Prop} (k94 : ∀ (v1 : Int) (T : TH), K94 v1 T → V G X T 94 [(0, .ref (gad G 13)), (1, .int (zI v1))] []) {v1 : Int} {T : TH} (h : b_X9_pass_118 Q K94 v1 T) : V G X T 118 [(0, .ref (gad G 13)), (1, .int (zI v1))] [] := by
  unfold b_X9_pass_118 at h
  refine v_iinc C 1 dX9_pass_118 rfl (by decide) ?_
  refine v_goto (tgt := 94) C dX9_pass_121 (by decide) ?_
  exact v_sub [1, 0] rfl (k94 _ _ h)
set_option maxRecDepth 100000 in
theorem t_X9_pass_94 {G : GT} {l0 : Launch} {X : CX} (C : CT G l0 X cX9_pass 2 RX9 (rM 3 71)) {Q : TH → Prop} (E : EN G X none (QV G Q)) : ∀ (n : Nat) (v1 : Int) (T : TH), h_X9_pass_94 Q n v1 T → V G X T 94 [(0, .ref (gad G 13)), (1, .int (zI v1))] [] := by
  intro n
  induction n with
  | zero =>
    intro v1 T h
    exact h.elim
  | succ n ih =>
    intro v1 T h
    rw [h_X9_pass_94] at h
    refine v_iload_n C 1 dX9_pass_94 rfl ?_
    refine v_aload_n C 0 dX9_pass_95 rfl ?_
    refine v_getI C kX9 17 rfl rfl wd_833 rfl dX9_pass_96 ?_
    obtain ⟨e1, e2, e3, e4⟩ := h
    refine v_icmp_ge (tgt := 124) C dX9_pass_99 (by decide) e1 e2 (fun e5 => ?_) (fun e5 => ?_)
    · have h := e3 e5
      exact v_vret C E dX9_pass_124 h
    · have h := e4 e5
      refine v_aload_n C 0 dX9_pass_102 rfl ?_
      refine v_getI C kX9 22 rfl rfl wd_838 rfl dX9_pass_103 ?_
      refine v_iload_n C 1 dX9_pass_106 rfl ?_
      refine v_cSZ C (s_X9_has G l0 h) mv_X9_has wd_986 ⟨by decide, by decide⟩ rfl rfl (Nat.le_of_ble_eq_true rfl) dX9_pass_107 (fun p2 T1 h => ?_)
      obtain ⟨e6, e7⟩ := h
      refine v_ifz_ne (tgt := 118) C dX9_pass_110 (by decide) (fun e8 => ?_) (fun e8 => ?_)
      · have h := e6 e8
        exact v_sub [0, 1] rfl (t_X9_pass_118 C E ih h)
      · have h := e7 e8
        refine v_aload_n C 0 dX9_pass_113 rfl ?_
        refine v_iload_n C 1 dX9_pass_114 rfl ?_
        refine v_cVN C kX9 rfl (s_X9_tells G l0 h) mv_X9_tells wd_1094 ⟨by decide, by decide⟩ rfl rfl (Nat.le_of_ble_eq_true rfl) dX9_pass_115 (fun T3 h => ?_)
        exact v_sub [0, 1] rfl (t_X9_pass_118 C E ih h)
set_option maxRecDepth 100000 in
theorem t_X9_pass_72 {G : GT} {l0 : Launch} {X : CX} (C : CT G l0 X cX9_pass 2 RX9 (rM 3 71)) {Q : TH → Prop} (E : EN G X none (QV G Q)) {K13 : Int → TH → Prop} (k13 : ∀ (v1 : Int) (T : TH), K13 v1 T → V G X T 13 [(0, .ref (gad G 13)), (1, .int (zI v1))] []) {v1 : Int} {s1 : Int} {s2 : Int} {T : TH} (h : b_X9_pass_72 Q K13 v1 s1 s2 T) : V G X T 72 [(0, .ref (gad G 13)), (1, .int (zI v1))] [.int (zI s2), .int (zI s1), .ref (gaa G 13 27)] := by
  unfold b_X9_pass_72 at h
  obtain ⟨e1, e2, h⟩ := h
  refine v_iast C (ar_of (o := 13) rfl ar_9_27) dX9_pass_72 e1 e2 ?_
  have h := h _ rfl
  refine v_iinc C 1 dX9_pass_73 rfl (by decide) ?_
  refine v_goto (tgt := 13) C dX9_pass_76 (by decide) ?_
  exact v_sub [1, 0] rfl (k13 _ _ h)
set_option maxRecDepth 100000 in
theorem t_X9_pass_66 {G : GT} {l0 : Launch} {X : CX} (C : CT G l0 X cX9_pass 2 RX9 (rM 3 71)) {Q : TH → Prop} (E : EN G X none (QV G Q)) {K13 : Int → TH → Prop} (k13 : ∀ (v1 : Int) (T : TH), K13 v1 T → V G X T 13 [(0, .ref (gad G 13)), (1, .int (zI v1))] []) {v1 : Int} {s1 : Int} {T : TH} (h : b_X9_pass_66 Q K13 v1 s1 T) : V G X T 66 [(0, .ref (gad G 13)), (1, .int (zI v1))] [.int (zI s1), .ref (gaa G 13 27)] := by
  unfold b_X9_pass_66 at h
  refine v_aload_n C 0 dX9_pass_66 rfl ?_
  refine v_getA C kX9 27 rfl rfl wd_843 rfl dX9_pass_67 ?_
  refine v_iload_n C 1 dX9_pass_70 rfl ?_
  obtain ⟨e1, e2, h⟩ := h
  refine v_iald C (ar_of (o := 13) rfl ar_9_27) dX9_pass_71 e1 e2 ?_
  exact v_sub [0, 1] rfl (t_X9_pass_72 C E k13 h)
set_option maxRecDepth 100000 in
theorem t_X9_pass_13 {G : GT} {l0 : Launch} {X : CX} (C : CT G l0 X cX9_pass 2 RX9 (rM 3 71)) {Q : TH → Prop} (E : EN G X none (QV G Q)) : ∀ (n : Nat) (v1 : Int) (T : TH), h_X9_pass_13 Q n v1 T → V G X T 13 [(0, .ref (gad G 13)), (1, .int (zI v1))] [] := by
  intro n
  induction n with
  | zero =>
    intro v1 T h
    exact h.elim
  | succ n ih =>
    intro v1 T h
    rw [h_X9_pass_13] at h
    refine v_iload_n C 1 dX9_pass_13 rfl ?_
    refine v_bipush C dX9_pass_14 (by decide) ?_
    obtain ⟨e1, e2, e3⟩ := h
    refine v_icmp_ge (tgt := 79) C dX9_pass_16 (by decide) e1 ⟨by decide, by decide⟩ (fun e4 => ?_) (fun e4 => ?_)
    · have h := e2 e4
      refine v_aload_n C 0 dX9_pass_79 rfl ?_
      refine v_getA C kX9 27 rfl rfl wd_843 rfl dX9_pass_80 ?_
      refine v_iconst C dX9_pass_83 ?_
      refine v_aload_n C 0 dX9_pass_84 rfl ?_
      refine v_getA C kX9 28 rfl rfl wd_844 rfl dX9_pass_85 ?_
      refine v_iconst C dX9_pass_88 ?_
      refine v_cSN C (s_X9_copy G l0 (ar_of (o := 13) rfl ar_9_27) (ar_of (o := 13) rfl ar_9_28) h) mv_X9_copy wd_1087 ⟨by decide, by decide⟩ rfl rfl (Nat.le_of_ble_eq_true rfl) dX9_pass_89 (fun T1 h => ?_)
      refine v_iconst C dX9_pass_92 ?_
      refine v_istore_n C dX9_pass_93 rfl (by decide) ?_
      obtain ⟨n9, h⟩ := h
      exact v_sub [1, 0] rfl (t_X9_pass_94 C E n9 _ _ h)
    · have h := e3 e4
      refine v_aload_n C 0 dX9_pass_19 rfl ?_
      refine v_getA C kX9 27 rfl rfl wd_843 rfl dX9_pass_20 ?_
      refine v_iload_n C 1 dX9_pass_23 rfl ?_
      refine v_aload_n C 0 dX9_pass_24 rfl ?_
      refine v_getI C kX9 25 rfl rfl wd_841 rfl dX9_pass_25 ?_
      obtain ⟨e5, e6, e7⟩ := h
      refine v_if_le (tgt := 66) C dX9_pass_28 (by decide) e5 (fun e8 => ?_) (fun e8 => ?_)
      · have h := e6 e8
        exact v_sub [0, 1] rfl (t_X9_pass_66 C E ih h)
      · have h := e7 e8
        refine v_aload_n C 0 dX9_pass_31 rfl ?_
        refine v_getA C kX9 27 rfl rfl wd_843 rfl dX9_pass_32 ?_
        refine v_iload_n C 1 dX9_pass_35 rfl ?_
        obtain ⟨e9, e10, h⟩ := h
        refine v_iald C (ar_of (o := 13) rfl ar_9_27) dX9_pass_36 e9 e10 ?_
        refine v_iconst C dX9_pass_37 ?_
        obtain ⟨e11, e12, e13⟩ := h
        refine v_icmp_eq (tgt := 66) C dX9_pass_38 (by decide) e11 ⟨by decide, by decide⟩ (fun e14 => ?_) (fun e14 => ?_)
        · have h := e12 e14
          exact v_sub [0, 1] rfl (t_X9_pass_66 C E ih h)
        · have h := e13 e14
          refine v_aload_n C 0 dX9_pass_41 rfl ?_
          refine v_getA C kX9 27 rfl rfl wd_843 rfl dX9_pass_42 ?_
          refine v_bipush C dX9_pass_45 (by decide) ?_
          refine v_iald C (ar_of (o := 13) rfl ar_9_27) dX9_pass_47 (by decide) (by decide) ?_
          refine v_aload_n C 0 dX9_pass_48 rfl ?_
          refine v_getA C kX9 27 rfl rfl wd_843 rfl dX9_pass_49 ?_
          refine v_iload_n C 1 dX9_pass_52 rfl ?_
          obtain ⟨e15, e16, h⟩ := h
          refine v_iald C (ar_of (o := 13) rfl ar_9_27) dX9_pass_53 e15 e16 ?_
          refine v_isub C dX9_pass_54 ?_
          refine v_aload_n C 0 dX9_pass_55 rfl ?_
          refine v_getI C kX9 25 rfl rfl wd_841 rfl dX9_pass_56 ?_
          obtain ⟨e17, e18, e19, e20⟩ := h
          refine v_icmp_lt (tgt := 66) C dX9_pass_59 (by decide) e17 e18 (fun e21 => ?_) (fun e21 => ?_)
          · have h := e19 e21
            exact v_sub [0, 1] rfl (t_X9_pass_66 C E ih h)
          · have h := e20 e21
            refine v_iconst C dX9_pass_62 ?_
            refine v_goto (tgt := 72) C dX9_pass_63 (by decide) ?_
            exact v_sub [0, 1] rfl (t_X9_pass_72 C E ih h)
set_option maxRecDepth 100000 in
theorem s_X9_pass (G : GT) (l0 : Launch) {T : TH} {Q : TH → Prop} (h : wp_X9_pass T Q) : MT G l0 yX9_pass cX9_pass 2 none 3 71 [.ref (gad G 13)] T (QV G Q) := by
  refine mt_of G l0 (by decide) (Nat.le_of_ble_eq_true rfl) (fun X C E => ?_)
  show V G X T 0 [(0, .ref (gad G 13))] []
  unfold wp_X9_pass at h
  refine v_aload_n C 0 dX9_pass_0 rfl ?_
  refine v_getA C kX9 27 rfl rfl wd_843 rfl dX9_pass_1 ?_
  refine v_bipush C dX9_pass_4 (by decide) ?_
  refine v_dup2 C dX9_pass_6 rfl rfl ?_
  refine v_iald C (ar_of (o := 13) rfl ar_9_27) dX9_pass_7 (by decide) (by decide) ?_
  refine v_iconst C dX9_pass_8 ?_
  refine v_iadd C dX9_pass_9 ?_
  refine v_iast C (ar_of (o := 13) rfl ar_9_27) dX9_pass_10 (by decide) (by decide) ?_
  have h := h _ rfl
  refine v_iconst C dX9_pass_11 ?_
  refine v_istore_n C dX9_pass_12 rfl (by decide) ?_
  obtain ⟨n9, h⟩ := h
  exact v_sub [1, 0] rfl (t_X9_pass_13 C E n9 _ _ h)
def h_X9_told_4 (v1 : Int) (Q : Int → TH → Prop) : Nat → Int → Int → TH → Prop
  | 0, _, _, _ => False
  | n + 1, v2, v3, T => zR v3 ∧ zR (T 13 18 0) ∧ ((T 13 18 0) ≤ v3 → (zR v1 ∧ (v1 = 0 → (Q (T 13 17 0) T)) ∧ (v1 = 1 → (Q (T 13 18 0) T)) ∧ (v1 = 2 → (Q (T 13 20 0) T)) ∧ (v1 = 3 → (Q (T 13 23 0) T)) ∧ (v1 = 4 → (Q (T 13 25 0) T)) ∧ (v1 = 5 → (Q (T 13 0 0) T)) ∧ (v1 = 6 → (Q (T 13 26 56) T)) ∧ (v1 = 7 → (Q (T 13 22 0) T)) ∧ (v1 = 8 → (Q v2 T)) ∧ (v1 = 9 → (Q (T 13 31 0) T)) ∧ (¬ v1 = 0 → ¬ v1 = 1 → ¬ v1 = 2 → ¬ v1 = 3 → ¬ v1 = 4 → ¬ v1 = 5 → ¬ v1 = 6 → ¬ v1 = 7 → ¬ v1 = 8 → ¬ v1 = 9 → (Q (-1000000002) T)))) ∧ (¬ ((T 13 18 0) ≤ v3) → (wp_X9_headsOf 13 26 58 v3 T (fun r2 T1 => ∀ w3 : Int, w3 = (v2 + r2) → (h_X9_told_4 v1 Q n) w3 (v3 + 1) T1)))
def wp_X9_told (v1 : Int) (T : TH) (Q : Int → TH → Prop) : Prop :=
  (∃ m9 : Nat, h_X9_told_4 v1 Q m9 0 0 T)
set_option maxRecDepth 100000 in
theorem t_X9_told_4 {G : GT} {l0 : Launch} {X : CX} (C : CT G l0 X cX9_told 4 RX9 (rM 2 46)) {Q : Int → TH → Prop} (E : EN G X (some .int) (QI G Q)) {v1 : Int} : ∀ (n : Nat) (v2 : Int) (v3 : Int) (T : TH), h_X9_told_4 v1 Q n v2 v3 T → V G X T 4 [(0, .ref (gad G 13)), (1, .int (zI v1)), (2, .int (zI v2)), (3, .int (zI v3))] [] := by
  intro n
  induction n with
  | zero =>
    intro v2 v3 T h
    exact h.elim
  | succ n ih =>
    intro v2 v3 T h
    rw [h_X9_told_4] at h
    refine v_iload_n C 3 dX9_told_4 rfl ?_
    refine v_aload_n C 0 dX9_told_5 rfl ?_
    refine v_getI C kX9 18 rfl rfl wd_834 rfl dX9_told_6 ?_
    obtain ⟨e1, e2, e3, e4⟩ := h
    refine v_icmp_ge (tgt := 30) C dX9_told_9 (by decide) e1 e2 (fun e5 => ?_) (fun e5 => ?_)
    · have h := e3 e5
      refine v_iload_n C 1 dX9_told_30 rfl ?_
      obtain ⟨e6, h⟩ := h
      obtain ⟨e7, e8, e9, e10, e11, e12, e13, e14, e15, e16, e17⟩ := h
      by_cases e19 : v1 = 0
      · have h := e7 e19
        refine v_tin (off := 53) (tgt := 84) C dX9_told_31 e6 0 e19 (by decide) (by decide) (by decide) (by decide) ?_
        refine v_aload_n C 0 dX9_told_84 rfl ?_
        refine v_getI C kX9 17 rfl rfl wd_833 rfl dX9_told_85 ?_
        exact v_iret C E dX9_told_88 h
      by_cases e20 : v1 = 1
      · have h := e8 e20
        refine v_tin (off := 58) (tgt := 89) C dX9_told_31 e6 1 e20 (by decide) (by decide) (by decide) (by decide) ?_
        refine v_aload_n C 0 dX9_told_89 rfl ?_
        refine v_getI C kX9 18 rfl rfl wd_834 rfl dX9_told_90 ?_
        exact v_iret C E dX9_told_93 h
      by_cases e21 : v1 = 2
      · have h := e9 e21
        refine v_tin (off := 63) (tgt := 94) C dX9_told_31 e6 2 e21 (by decide) (by decide) (by decide) (by decide) ?_
        refine v_aload_n C 0 dX9_told_94 rfl ?_
        refine v_getI C kX9 20 rfl rfl wd_836 rfl dX9_told_95 ?_
        exact v_iret C E dX9_told_98 h
      by_cases e22 : v1 = 3
      · have h := e10 e22
        refine v_tin (off := 68) (tgt := 99) C dX9_told_31 e6 3 e22 (by decide) (by decide) (by decide) (by decide) ?_
        refine v_aload_n C 0 dX9_told_99 rfl ?_
        refine v_getI C kX9 23 rfl rfl wd_839 rfl dX9_told_100 ?_
        exact v_iret C E dX9_told_103 h
      by_cases e23 : v1 = 4
      · have h := e11 e23
        refine v_tin (off := 73) (tgt := 104) C dX9_told_31 e6 4 e23 (by decide) (by decide) (by decide) (by decide) ?_
        refine v_aload_n C 0 dX9_told_104 rfl ?_
        refine v_getI C kX9 25 rfl rfl wd_841 rfl dX9_told_105 ?_
        exact v_iret C E dX9_told_108 h
      by_cases e24 : v1 = 5
      · have h := e12 e24
        refine v_tin (off := 78) (tgt := 109) C dX9_told_31 e6 5 e24 (by decide) (by decide) (by decide) (by decide) ?_
        refine v_aload_n C 0 dX9_told_109 rfl ?_
        refine v_getI C kX9 0 rfl rfl wd_816 rfl dX9_told_110 ?_
        exact v_iret C E dX9_told_113 h
      by_cases e25 : v1 = 6
      · have h := e13 e25
        refine v_tin (off := 83) (tgt := 114) C dX9_told_31 e6 6 e25 (by decide) (by decide) (by decide) (by decide) ?_
        refine v_aload_n C 0 dX9_told_114 rfl ?_
        refine v_getA C kX9 26 rfl rfl wd_842 rfl dX9_told_115 ?_
        refine v_bipush C dX9_told_118 (by decide) ?_
        refine v_iald C (ar_of (o := 13) rfl ar_9_26) dX9_told_120 (by decide) (by decide) ?_
        exact v_iret C E dX9_told_121 h
      by_cases e26 : v1 = 7
      · have h := e14 e26
        refine v_tin (off := 91) (tgt := 122) C dX9_told_31 e6 7 e26 (by decide) (by decide) (by decide) (by decide) ?_
        refine v_aload_n C 0 dX9_told_122 rfl ?_
        refine v_getI C kX9 22 rfl rfl wd_838 rfl dX9_told_123 ?_
        exact v_iret C E dX9_told_126 h
      by_cases e27 : v1 = 8
      · have h := e15 e27
        refine v_tin (off := 96) (tgt := 127) C dX9_told_31 e6 8 e27 (by decide) (by decide) (by decide) (by decide) ?_
        refine v_iload_n C 2 dX9_told_127 rfl ?_
        exact v_iret C E dX9_told_128 h
      by_cases e28 : v1 = 9
      · have h := e16 e28
        refine v_tin (off := 98) (tgt := 129) C dX9_told_31 e6 9 e28 (by decide) (by decide) (by decide) (by decide) ?_
        refine v_aload_n C 0 dX9_told_129 rfl ?_
        refine v_getI C kX9 31 rfl rfl wd_847 rfl dX9_told_130 ?_
        exact v_iret C E dX9_told_133 h
      have h := e17 e19 e20 e21 e22 e23 e24 e25 e26 e27 e28
      refine v_tout (tgt := 134) C dX9_told_31 e6 (by omega) (by decide) ?_
      refine v_ldc (n := -1000000002) C dX9_told_134 wd_940 (by decide) ?_
      exact v_iret C E dX9_told_136 h
    · have h := e4 e5
      refine v_iload_n C 2 dX9_told_12 rfl ?_
      refine v_aload_n C 0 dX9_told_13 rfl ?_
      refine v_aload_n C 0 dX9_told_14 rfl ?_
      refine v_getA C kX9 26 rfl rfl wd_842 rfl dX9_told_15 ?_
      refine v_iload_n C 3 dX9_told_18 rfl ?_
      refine v_cVI C kX9 rfl (s_X9_headsOf G l0 (ar_of (o := 13) rfl ar_9_26) h) mv_X9_headsOf wd_1005 ⟨by decide, by decide⟩ rfl rfl (Nat.le_of_ble_eq_true rfl) dX9_told_19 (fun r2 T1 h => ?_)
      refine v_iadd C dX9_told_22 ?_
      refine v_istore_n C dX9_told_23 rfl (by decide) ?_
      have h := h _ rfl
      refine v_iinc C 3 dX9_told_24 rfl (by decide) ?_
      refine v_goto (tgt := 4) C dX9_told_27 (by decide) ?_
      exact v_sub [2, 3, 1, 0] rfl (ih _ _ _ h)
set_option maxRecDepth 100000 in
theorem s_X9_told (G : GT) (l0 : Launch) {v1 : Int} {T : TH} {Q : Int → TH → Prop} (h : wp_X9_told v1 T Q) : MT G l0 yX9_told cX9_told 4 (some .int) 2 46 [.ref (gad G 13), .int (zI v1)] T (QI G Q) := by
  refine mt_of G l0 (by decide) (Nat.le_of_ble_eq_true rfl) (fun X C E => ?_)
  show V G X T 0 [(0, .ref (gad G 13)), (1, .int (zI v1))] []
  unfold wp_X9_told at h
  refine v_iconst C dX9_told_0 ?_
  refine v_istore_n C dX9_told_1 rfl (by decide) ?_
  refine v_iconst C dX9_told_2 ?_
  refine v_istore_n C dX9_told_3 rfl (by decide) ?_
  obtain ⟨n9, h⟩ := h
  exact v_sub [2, 3, 1, 0] rfl (t_X9_told_4 C E n9 _ _ _ h)
def wp_X9_fact (v1 : Int) (v2 : Int) (T : TH) (Q : Int → TH → Prop) : Prop :=
  wp_X9_isFact v1 T (fun p2 T1 => (p2 = true → (zR v2 ∧ (v2 = 0 → (0 ≤ ((4 * v1) + v2) ∧ ((4 * v1) + v2) < 32 ∧ Q (T1 13 19 ((4 * v1) + v2)) T1)) ∧ (v2 = 1 → (0 ≤ ((4 * v1) + v2) ∧ ((4 * v1) + v2) < 32 ∧ Q (T1 13 19 ((4 * v1) + v2)) T1)) ∧ (v2 = 2 → (0 ≤ ((4 * v1) + v2) ∧ ((4 * v1) + v2) < 32 ∧ Q (T1 13 19 ((4 * v1) + v2)) T1)) ∧ (v2 = 3 → (wp_X9_knowersOf 13 26 58 v1 T1 (fun r4 T3 => Q r4 T3))) ∧ (v2 = 4 → (wp_X9_headsOf 13 26 58 v1 T1 (fun r6 T5 => Q r6 T5))) ∧ (¬ v2 = 0 → ¬ v2 = 1 → ¬ v2 = 2 → ¬ v2 = 3 → ¬ v2 = 4 → (Q (-1000000002) T1)))) ∧ (p2 = false → (Q (-1000000001) T1)))
set_option maxRecDepth 100000 in
theorem s_X9_fact (G : GT) (l0 : Launch) {v1 : Int} {v2 : Int} {T : TH} {Q : Int → TH → Prop} (h : wp_X9_fact v1 v2 T Q) : MT G l0 yX9_fact cX9_fact 3 (some .int) 2 46 [.ref (gad G 13), .int (zI v1), .int (zI v2)] T (QI G Q) := by
  refine mt_of G l0 (by decide) (Nat.le_of_ble_eq_true rfl) (fun X C E => ?_)
  show V G X T 0 [(0, .ref (gad G 13)), (1, .int (zI v1)), (2, .int (zI v2))] []
  unfold wp_X9_fact at h
  refine v_aload_n C 0 dX9_fact_0 rfl ?_
  refine v_iload_n C 1 dX9_fact_1 rfl ?_
  refine v_cVZ C kX9 rfl (s_X9_isFact G l0 h) mv_X9_isFact wd_1020 ⟨by decide, by decide⟩ rfl rfl (Nat.le_of_ble_eq_true rfl) dX9_fact_2 (fun p2 T1 h => ?_)
  obtain ⟨e1, e2⟩ := h
  refine v_ifz_ne (tgt := 11) C dX9_fact_5 (by decide) (fun e3 => ?_) (fun e3 => ?_)
  · have h := e1 e3
    refine v_iload_n C 2 dX9_fact_11 rfl ?_
    obtain ⟨e4, h⟩ := h
    obtain ⟨e11, e12, e13, e14, e15, e16⟩ := h
    by_cases e18 : v2 = 0
    · have h := e11 e18
      refine v_tin (off := 36) (tgt := 48) C dX9_fact_12 e4 0 e18 (by decide) (by decide) (by decide) (by decide) ?_
      refine v_aload_n C 0 dX9_fact_48 rfl ?_
      refine v_getA C kX9 19 rfl rfl wd_835 rfl dX9_fact_49 ?_
      refine v_iconst C dX9_fact_52 ?_
      refine v_iload_n C 1 dX9_fact_53 rfl ?_
      refine v_imul C dX9_fact_54 ?_
      refine v_iload_n C 2 dX9_fact_55 rfl ?_
      refine v_iadd C dX9_fact_56 ?_
      obtain ⟨e5, e6, h⟩ := h
      refine v_iald C (ar_of (o := 13) rfl ar_9_19) dX9_fact_57 e5 e6 ?_
      exact v_iret C E dX9_fact_58 h
    by_cases e19 : v2 = 1
    · have h := e12 e19
      refine v_tin (off := 36) (tgt := 48) C dX9_fact_12 e4 1 e19 (by decide) (by decide) (by decide) (by decide) ?_
      refine v_aload_n C 0 dX9_fact_48 rfl ?_
      refine v_getA C kX9 19 rfl rfl wd_835 rfl dX9_fact_49 ?_
      refine v_iconst C dX9_fact_52 ?_
      refine v_iload_n C 1 dX9_fact_53 rfl ?_
      refine v_imul C dX9_fact_54 ?_
      refine v_iload_n C 2 dX9_fact_55 rfl ?_
      refine v_iadd C dX9_fact_56 ?_
      obtain ⟨e7, e8, h⟩ := h
      refine v_iald C (ar_of (o := 13) rfl ar_9_19) dX9_fact_57 e7 e8 ?_
      exact v_iret C E dX9_fact_58 h
    by_cases e20 : v2 = 2
    · have h := e13 e20
      refine v_tin (off := 36) (tgt := 48) C dX9_fact_12 e4 2 e20 (by decide) (by decide) (by decide) (by decide) ?_
      refine v_aload_n C 0 dX9_fact_48 rfl ?_
      refine v_getA C kX9 19 rfl rfl wd_835 rfl dX9_fact_49 ?_
      refine v_iconst C dX9_fact_52 ?_
      refine v_iload_n C 1 dX9_fact_53 rfl ?_
      refine v_imul C dX9_fact_54 ?_
      refine v_iload_n C 2 dX9_fact_55 rfl ?_
      refine v_iadd C dX9_fact_56 ?_
      obtain ⟨e9, e10, h⟩ := h
      refine v_iald C (ar_of (o := 13) rfl ar_9_19) dX9_fact_57 e9 e10 ?_
      exact v_iret C E dX9_fact_58 h
    by_cases e21 : v2 = 3
    · have h := e14 e21
      refine v_tin (off := 47) (tgt := 59) C dX9_fact_12 e4 3 e21 (by decide) (by decide) (by decide) (by decide) ?_
      refine v_aload_n C 0 dX9_fact_59 rfl ?_
      refine v_aload_n C 0 dX9_fact_60 rfl ?_
      refine v_getA C kX9 26 rfl rfl wd_842 rfl dX9_fact_61 ?_
      refine v_iload_n C 1 dX9_fact_64 rfl ?_
      refine v_cVI C kX9 rfl (s_X9_knowersOf G l0 (ar_of (o := 13) rfl ar_9_26) h) mv_X9_knowersOf wd_1025 ⟨by decide, by decide⟩ rfl rfl (Nat.le_of_ble_eq_true rfl) dX9_fact_65 (fun r4 T3 h => ?_)
      exact v_iret C E dX9_fact_68 h
    by_cases e22 : v2 = 4
    · have h := e15 e22
      refine v_tin (off := 57) (tgt := 69) C dX9_fact_12 e4 4 e22 (by decide) (by decide) (by decide) (by decide) ?_
      refine v_aload_n C 0 dX9_fact_69 rfl ?_
      refine v_aload_n C 0 dX9_fact_70 rfl ?_
      refine v_getA C kX9 26 rfl rfl wd_842 rfl dX9_fact_71 ?_
      refine v_iload_n C 1 dX9_fact_74 rfl ?_
      refine v_cVI C kX9 rfl (s_X9_headsOf G l0 (ar_of (o := 13) rfl ar_9_26) h) mv_X9_headsOf wd_1005 ⟨by decide, by decide⟩ rfl rfl (Nat.le_of_ble_eq_true rfl) dX9_fact_75 (fun r6 T5 h => ?_)
      exact v_iret C E dX9_fact_78 h
    have h := e16 e18 e19 e20 e21 e22
    refine v_tout (tgt := 79) C dX9_fact_12 e4 (by omega) (by decide) ?_
    refine v_ldc (n := -1000000002) C dX9_fact_79 wd_940 (by decide) ?_
    exact v_iret C E dX9_fact_81 h
  · have h := e2 e3
    refine v_ldc (n := -1000000001) C dX9_fact_8 wd_1024 (by decide) ?_
    exact v_iret C E dX9_fact_10 h
def b_X9_person_72 (v1 : Int) (v2 : Int) (Q : Int → TH → Prop) (K19 : Int → Int → Int → TH → Prop) (v3 : Int) (v5 : Int) (s0 : Int) (s1 : Int) (T : TH) : Prop :=
  ∀ w1 : Int, w1 = (zor s0 s1) → K19 v3 w1 (v5 + 1) T
def b_X9_person_47 (v1 : Int) (v2 : Int) (Q : Int → TH → Prop) (K19 : Int → Int → Int → TH → Prop) (v4 : Int) (v5 : Int) (s0 : Int) (s1 : Int) (T : TH) : Prop :=
  ∀ w1 : Int, w1 = (zor s0 s1) → wp_X9_knows 13 26 58 v1 v5 T (fun p3 T2 => (p3 = false → (b_X9_person_72 v1 v2 Q K19 w1 v5 v4 0 T2)) ∧ (p3 = true → (b_X9_person_72 v1 v2 Q K19 w1 v5 v4 (zshl 1 v5) T2)))
def h_X9_person_19 (v1 : Int) (v2 : Int) (Q : Int → TH → Prop) : Nat → Int → Int → Int → TH → Prop
  | 0, _, _, _, _ => False
  | n + 1, v3, v4, v5, T => zR v5 ∧ zR (T 13 18 0) ∧ ((T 13 18 0) ≤ v5 → (zR v2 ∧ (v2 = 0 → (wp_X9_friendsOf v1 T (fun r2 T1 => Q r2 T1))) ∧ (v2 = 1 → (Q v3 T)) ∧ (v2 = 2 → (Q v4 T)) ∧ (v2 = 3 → (Q (zand (zshr (T 13 22 0) v1) 1) T)) ∧ (¬ v2 = 0 → ¬ v2 = 1 → ¬ v2 = 2 → ¬ v2 = 3 → (Q (-1000000002) T)))) ∧ (¬ ((T 13 18 0) ≤ v5) → (wp_X9_personOf v5 T (fun r4 T3 => zR r4 ∧ zR v1 ∧ (¬ r4 = v1 → (b_X9_person_47 v1 v2 Q (h_X9_person_19 v1 v2 Q n) v4 v5 v3 0 T3)) ∧ (r4 = v1 → (b_X9_person_47 v1 v2 Q (h_X9_person_19 v1 v2 Q n) v4 v5 v3 (zshl 1 v5) T3)))))
def wp_X9_person (v1 : Int) (v2 : Int) (T : TH) (Q : Int → TH → Prop) : Prop :=
  wp_X9_isOne v1 T (fun p2 T1 => (p2 = true → ((∃ m9 : Nat, h_X9_person_19 v1 v2 Q m9 0 0 0 T1))) ∧ (p2 = false → (Q (-1000000001) T1)))
set_option maxRecDepth 100000 in
theorem t_X9_person_72 {G : GT} {l0 : Launch} {X : CX} (C : CT G l0 X cX9_person 6 RX9 (rM 2 43)) {Q : Int → TH → Prop} (E : EN G X (some .int) (QI G Q)) {v1 : Int} {v2 : Int} {K19 : Int → Int → Int → TH → Prop} (k19 : ∀ (v3 : Int) (v4 : Int) (v5 : Int) (T : TH), K19 v3 v4 v5 T → V G X T 19 [(0, .ref (gad G 13)), (1, .int (zI v1)), (2, .int (zI v2)), (3, .int (zI v3)), (4, .int (zI v4)), (5, .int (zI v5))] []) {v3 : Int} {v5 : Int} {s0 : Int} {s1 : Int} {T : TH} (h : b_X9_person_72 v1 v2 Q K19 v3 v5 s0 s1 T) : V G X T 72 [(0, .ref (gad G 13)), (1, .int (zI v1)), (2, .int (zI v2)), (3, .int (zI v3)), (5, .int (zI v5))] [.int (zI s1), .int (zI s0)] := by
  unfold b_X9_person_72 at h
  refine v_ior C dX9_person_72 ?_
  refine v_istore C dX9_person_73 (by decide) ?_
  have h := h _ rfl
  refine v_iinc C 5 dX9_person_75 rfl (by decide) ?_
  refine v_goto (tgt := 19) C dX9_person_78 (by decide) ?_
  exact v_sub [2, 3, 4, 5, 1, 0] rfl (k19 _ _ _ _ h)
set_option maxRecDepth 100000 in
theorem t_X9_person_47 {G : GT} {l0 : Launch} {X : CX} (C : CT G l0 X cX9_person 6 RX9 (rM 2 43)) {Q : Int → TH → Prop} (E : EN G X (some .int) (QI G Q)) {v1 : Int} {v2 : Int} {K19 : Int → Int → Int → TH → Prop} (k19 : ∀ (v3 : Int) (v4 : Int) (v5 : Int) (T : TH), K19 v3 v4 v5 T → V G X T 19 [(0, .ref (gad G 13)), (1, .int (zI v1)), (2, .int (zI v2)), (3, .int (zI v3)), (4, .int (zI v4)), (5, .int (zI v5))] []) {v4 : Int} {v5 : Int} {s0 : Int} {s1 : Int} {T : TH} (h : b_X9_person_47 v1 v2 Q K19 v4 v5 s0 s1 T) : V G X T 47 [(0, .ref (gad G 13)), (1, .int (zI v1)), (2, .int (zI v2)), (4, .int (zI v4)), (5, .int (zI v5))] [.int (zI s1), .int (zI s0)] := by
  unfold b_X9_person_47 at h
  refine v_ior C dX9_person_47 ?_
  refine v_istore_n C dX9_person_48 rfl (by decide) ?_
  have h := h _ rfl
  refine v_iload C 4 dX9_person_49 rfl ?_
  refine v_aload_n C 1 dX9_person_51 rfl ?_
  refine v_getA C kX9 26 rfl rfl wd_842 rfl dX9_person_52 ?_
  refine v_iload_n C 2 dX9_person_55 rfl ?_
  refine v_iload C 5 dX9_person_56 rfl ?_
  refine v_cSZ C (s_X9_knows G l0 (ar_of (o := 13) rfl ar_9_26) h) mv_X9_knows wd_1013 ⟨by decide, by decide⟩ rfl rfl (Nat.le_of_ble_eq_true rfl) dX9_person_58 (fun p3 T2 h => ?_)
  obtain ⟨e1, e2⟩ := h
  refine v_ifz_eq (tgt := 71) C dX9_person_61 (by decide) (fun e3 => ?_) (fun e3 => ?_)
  · have h := e1 e3
    refine v_iconst C dX9_person_71 ?_
    exact v_sub [1, 2, 3, 0, 5] rfl (t_X9_person_72 C E k19 h)
  · have h := e2 e3
    refine v_iconst C dX9_person_64 ?_
    refine v_iload C 5 dX9_person_65 rfl ?_
    refine v_ishl C dX9_person_67 ?_
    refine v_goto (tgt := 72) C dX9_person_68 (by decide) ?_
    exact v_sub [1, 2, 3, 0, 5] rfl (t_X9_person_72 C E k19 h)
set_option maxRecDepth 100000 in
theorem t_X9_person_19 {G : GT} {l0 : Launch} {X : CX} (C : CT G l0 X cX9_person 6 RX9 (rM 2 43)) {Q : Int → TH → Prop} (E : EN G X (some .int) (QI G Q)) {v1 : Int} {v2 : Int} : ∀ (n : Nat) (v3 : Int) (v4 : Int) (v5 : Int) (T : TH), h_X9_person_19 v1 v2 Q n v3 v4 v5 T → V G X T 19 [(0, .ref (gad G 13)), (1, .int (zI v1)), (2, .int (zI v2)), (3, .int (zI v3)), (4, .int (zI v4)), (5, .int (zI v5))] [] := by
  intro n
  induction n with
  | zero =>
    intro v3 v4 v5 T h
    exact h.elim
  | succ n ih =>
    intro v3 v4 v5 T h
    rw [h_X9_person_19] at h
    refine v_iload C 5 dX9_person_19 rfl ?_
    refine v_aload_n C 0 dX9_person_21 rfl ?_
    refine v_getI C kX9 18 rfl rfl wd_834 rfl dX9_person_22 ?_
    obtain ⟨e1, e2, e3, e4⟩ := h
    refine v_icmp_ge (tgt := 81) C dX9_person_25 (by decide) e1 e2 (fun e5 => ?_) (fun e5 => ?_)
    · have h := e3 e5
      refine v_iload_n C 2 dX9_person_81 rfl ?_
      obtain ⟨e6, h⟩ := h
      obtain ⟨e7, e8, e9, e10, e11⟩ := h
      by_cases e13 : v2 = 0
      · have h := e7 e13
        refine v_tin (off := 30) (tgt := 112) C dX9_person_82 e6 0 e13 (by decide) (by decide) (by decide) (by decide) ?_
        refine v_aload_n C 0 dX9_person_112 rfl ?_
        refine v_iload_n C 1 dX9_person_113 rfl ?_
        refine v_cVI C kX9 rfl (s_X9_friendsOf G l0 h) mv_X9_friendsOf wd_1037 ⟨by decide, by decide⟩ rfl rfl (Nat.le_of_ble_eq_true rfl) dX9_person_114 (fun r2 T1 h => ?_)
        exact v_iret C E dX9_person_117 h
      by_cases e14 : v2 = 1
      · have h := e8 e14
        refine v_tin (off := 36) (tgt := 118) C dX9_person_82 e6 1 e14 (by decide) (by decide) (by decide) (by decide) ?_
        refine v_iload_n C 3 dX9_person_118 rfl ?_
        exact v_iret C E dX9_person_119 h
      by_cases e15 : v2 = 2
      · have h := e9 e15
        refine v_tin (off := 38) (tgt := 120) C dX9_person_82 e6 2 e15 (by decide) (by decide) (by decide) (by decide) ?_
        refine v_iload C 4 dX9_person_120 rfl ?_
        exact v_iret C E dX9_person_122 h
      by_cases e16 : v2 = 3
      · have h := e10 e16
        refine v_tin (off := 41) (tgt := 123) C dX9_person_82 e6 3 e16 (by decide) (by decide) (by decide) (by decide) ?_
        refine v_aload_n C 0 dX9_person_123 rfl ?_
        refine v_getI C kX9 22 rfl rfl wd_838 rfl dX9_person_124 ?_
        refine v_iload_n C 1 dX9_person_127 rfl ?_
        refine v_ishr C dX9_person_128 ?_
        refine v_iconst C dX9_person_129 ?_
        refine v_iand C dX9_person_130 ?_
        exact v_iret C E dX9_person_131 h
      have h := e11 e13 e14 e15 e16
      refine v_tout (tgt := 132) C dX9_person_82 e6 (by omega) (by decide) ?_
      refine v_ldc (n := -1000000002) C dX9_person_132 wd_940 (by decide) ?_
      exact v_iret C E dX9_person_134 h
    · have h := e4 e5
      refine v_iload_n C 3 dX9_person_28 rfl ?_
      refine v_aload_n C 0 dX9_person_29 rfl ?_
      refine v_iload C 5 dX9_person_30 rfl ?_
      refine v_cVI C kX9 rfl (s_X9_personOf G l0 h) mv_X9_personOf wd_1009 ⟨by decide, by decide⟩ rfl rfl (Nat.le_of_ble_eq_true rfl) dX9_person_32 (fun r4 T3 h => ?_)
      refine v_iload_n C 1 dX9_person_35 rfl ?_
      obtain ⟨e17, e18, e19, e20⟩ := h
      refine v_icmp_ne (tgt := 46) C dX9_person_36 (by decide) e17 e18 (fun e21 => ?_) (fun e21 => ?_)
      · have h := e19 e21
        refine v_iconst C dX9_person_46 ?_
        exact v_sub [0, 1, 2, 4, 5] rfl (t_X9_person_47 C E ih h)
      · have h := e20 e21
        refine v_iconst C dX9_person_39 ?_
        refine v_iload C 5 dX9_person_40 rfl ?_
        refine v_ishl C dX9_person_42 ?_
        refine v_goto (tgt := 47) C dX9_person_43 (by decide) ?_
        exact v_sub [0, 1, 2, 4, 5] rfl (t_X9_person_47 C E ih h)
set_option maxRecDepth 100000 in
theorem s_X9_person (G : GT) (l0 : Launch) {v1 : Int} {v2 : Int} {T : TH} {Q : Int → TH → Prop} (h : wp_X9_person v1 v2 T Q) : MT G l0 yX9_person cX9_person 6 (some .int) 2 43 [.ref (gad G 13), .int (zI v1), .int (zI v2)] T (QI G Q) := by
  refine mt_of G l0 (by decide) (Nat.le_of_ble_eq_true rfl) (fun X C E => ?_)
  show V G X T 0 [(0, .ref (gad G 13)), (1, .int (zI v1)), (2, .int (zI v2))] []
  unfold wp_X9_person at h
  refine v_aload_n C 0 dX9_person_0 rfl ?_
  refine v_iload_n C 1 dX9_person_1 rfl ?_
  refine v_cVZ C kX9 rfl (s_X9_isOne G l0 h) mv_X9_isOne wd_1033 ⟨by decide, by decide⟩ rfl rfl (Nat.le_of_ble_eq_true rfl) dX9_person_2 (fun p2 T1 h => ?_)
  obtain ⟨e1, e2⟩ := h
  refine v_ifz_ne (tgt := 11) C dX9_person_5 (by decide) (fun e3 => ?_) (fun e3 => ?_)
  · have h := e1 e3
    refine v_iconst C dX9_person_11 ?_
    refine v_istore_n C dX9_person_12 rfl (by decide) ?_
    refine v_iconst C dX9_person_13 ?_
    refine v_istore C dX9_person_14 (by decide) ?_
    refine v_iconst C dX9_person_16 ?_
    refine v_istore C dX9_person_17 (by decide) ?_
    obtain ⟨n9, h⟩ := h
    exact v_sub [3, 4, 5, 2, 1, 0] rfl (t_X9_person_19 C E n9 _ _ _ _ h)
  · have h := e2 e3
    refine v_ldc (n := -1000000001) C dX9_person_8 wd_1024 (by decide) ?_
    exact v_iret C E dX9_person_10 h
def wp_X9_since (v1 : Int) (v2 : Int) (T : TH) (Q : Int → TH → Prop) : Prop :=
  wp_X9_isOne v1 T (fun p2 T1 => (p2 = false → (Q (-1000000001) T1)) ∧ (p2 = true → (wp_X9_isFact v2 T1 (fun p4 T3 => (p4 = false → (Q (-1000000001) T3)) ∧ (p4 = true → (0 ≤ ((8 * v1) + v2) ∧ ((8 * v1) + v2) < 58 ∧ Q (T3 13 26 ((8 * v1) + v2)) T3))))))
set_option maxRecDepth 100000 in
theorem s_X9_since (G : GT) (l0 : Launch) {v1 : Int} {v2 : Int} {T : TH} {Q : Int → TH → Prop} (h : wp_X9_since v1 v2 T Q) : MT G l0 yX9_since cX9_since 3 (some .int) 2 43 [.ref (gad G 13), .int (zI v1), .int (zI v2)] T (QI G Q) := by
  refine mt_of G l0 (by decide) (Nat.le_of_ble_eq_true rfl) (fun X C E => ?_)
  show V G X T 0 [(0, .ref (gad G 13)), (1, .int (zI v1)), (2, .int (zI v2))] []
  unfold wp_X9_since at h
  refine v_aload_n C 0 dX9_since_0 rfl ?_
  refine v_iload_n C 1 dX9_since_1 rfl ?_
  refine v_cVZ C kX9 rfl (s_X9_isOne G l0 h) mv_X9_isOne wd_1033 ⟨by decide, by decide⟩ rfl rfl (Nat.le_of_ble_eq_true rfl) dX9_since_2 (fun p2 T1 h => ?_)
  obtain ⟨e1, e2⟩ := h
  refine v_ifz_eq (tgt := 30) C dX9_since_5 (by decide) (fun e3 => ?_) (fun e3 => ?_)
  · have h := e1 e3
    refine v_ldc (n := -1000000001) C dX9_since_30 wd_1024 (by decide) ?_
    exact v_iret C E dX9_since_32 h
  · have h := e2 e3
    refine v_aload_n C 0 dX9_since_8 rfl ?_
    refine v_iload_n C 2 dX9_since_9 rfl ?_
    refine v_cVZ C kX9 rfl (s_X9_isFact G l0 h) mv_X9_isFact wd_1020 ⟨by decide, by decide⟩ rfl rfl (Nat.le_of_ble_eq_true rfl) dX9_since_10 (fun p4 T3 h => ?_)
    obtain ⟨e4, e5⟩ := h
    refine v_ifz_eq (tgt := 30) C dX9_since_13 (by decide) (fun e6 => ?_) (fun e6 => ?_)
    · have h := e4 e6
      refine v_ldc (n := -1000000001) C dX9_since_30 wd_1024 (by decide) ?_
      exact v_iret C E dX9_since_32 h
    · have h := e5 e6
      refine v_aload_n C 0 dX9_since_16 rfl ?_
      refine v_getA C kX9 26 rfl rfl wd_842 rfl dX9_since_17 ?_
      refine v_bipush C dX9_since_20 (by decide) ?_
      refine v_iload_n C 1 dX9_since_22 rfl ?_
      refine v_imul C dX9_since_23 ?_
      refine v_iload_n C 2 dX9_since_24 rfl ?_
      refine v_iadd C dX9_since_25 ?_
      obtain ⟨e7, e8, h⟩ := h
      refine v_iald C (ar_of (o := 13) rfl ar_9_26) dX9_since_26 e7 e8 ?_
      refine v_goto (tgt := 32) C dX9_since_27 (by decide) ?_
      exact v_iret C E dX9_since_32 h
def wp_X9_weight (v1 : Int) (T : TH) (Q : Int → TH → Prop) : Prop :=
  wp_X9_isOne v1 T (fun p2 T1 => (p2 = false → (Q (-1000000001) T1)) ∧ (p2 = true → (wp_X9_weightOf 13 26 58 v1 T1 (fun r4 T3 => Q r4 T3))))
set_option maxRecDepth 100000 in
theorem s_X9_weight (G : GT) (l0 : Launch) {v1 : Int} {T : TH} {Q : Int → TH → Prop} (h : wp_X9_weight v1 T Q) : MT G l0 yX9_weight cX9_weight 2 (some .int) 3 71 [.ref (gad G 13), .int (zI v1)] T (QI G Q) := by
  refine mt_of G l0 (by decide) (Nat.le_of_ble_eq_true rfl) (fun X C E => ?_)
  show V G X T 0 [(0, .ref (gad G 13)), (1, .int (zI v1))] []
  unfold wp_X9_weight at h
  refine v_aload_n C 0 dX9_weight_0 rfl ?_
  refine v_iload_n C 1 dX9_weight_1 rfl ?_
  refine v_cVZ C kX9 rfl (s_X9_isOne G l0 h) mv_X9_isOne wd_1033 ⟨by decide, by decide⟩ rfl rfl (Nat.le_of_ble_eq_true rfl) dX9_weight_2 (fun p2 T1 h => ?_)
  obtain ⟨e1, e2⟩ := h
  refine v_ifz_eq (tgt := 20) C dX9_weight_5 (by decide) (fun e3 => ?_) (fun e3 => ?_)
  · have h := e1 e3
    refine v_ldc (n := -1000000001) C dX9_weight_20 wd_1024 (by decide) ?_
    exact v_iret C E dX9_weight_22 h
  · have h := e2 e3
    refine v_aload_n C 0 dX9_weight_8 rfl ?_
    refine v_aload_n C 0 dX9_weight_9 rfl ?_
    refine v_getA C kX9 26 rfl rfl wd_842 rfl dX9_weight_10 ?_
    refine v_iload_n C 1 dX9_weight_13 rfl ?_
    refine v_cVI C kX9 rfl (s_X9_weightOf G l0 (ar_of (o := 13) rfl ar_9_26) h) mv_X9_weightOf wd_1049 ⟨by decide, by decide⟩ rfl rfl (Nat.le_of_ble_eq_true rfl) dX9_weight_14 (fun r4 T3 h => ?_)
    refine v_goto (tgt := 22) C dX9_weight_17 (by decide) ?_
    exact v_iret C E dX9_weight_22 h
def wp_X9_bridge (v1 : Int) (T : TH) (Q : Int → TH → Prop) : Prop :=
  wp_X9_isBridge v1 T (fun p2 T1 => (p2 = false → (Q (-1000000001) T1)) ∧ (p2 = true → (0 ≤ v1 ∧ v1 < 4 ∧ Q (T1 13 24 v1) T1)))
set_option maxRecDepth 100000 in
theorem s_X9_bridge (G : GT) (l0 : Launch) {v1 : Int} {T : TH} {Q : Int → TH → Prop} (h : wp_X9_bridge v1 T Q) : MT G l0 yX9_bridge cX9_bridge 2 (some .int) 2 43 [.ref (gad G 13), .int (zI v1)] T (QI G Q) := by
  refine mt_of G l0 (by decide) (Nat.le_of_ble_eq_true rfl) (fun X C E => ?_)
  show V G X T 0 [(0, .ref (gad G 13)), (1, .int (zI v1))] []
  unfold wp_X9_bridge at h
  refine v_aload_n C 0 dX9_bridge_0 rfl ?_
  refine v_iload_n C 1 dX9_bridge_1 rfl ?_
  refine v_cVZ C kX9 rfl (s_X9_isBridge G l0 h) mv_X9_isBridge wd_1065 ⟨by decide, by decide⟩ rfl rfl (Nat.le_of_ble_eq_true rfl) dX9_bridge_2 (fun p2 T1 h => ?_)
  obtain ⟨e1, e2⟩ := h
  refine v_ifz_eq (tgt := 17) C dX9_bridge_5 (by decide) (fun e3 => ?_) (fun e3 => ?_)
  · have h := e1 e3
    refine v_ldc (n := -1000000001) C dX9_bridge_17 wd_1024 (by decide) ?_
    exact v_iret C E dX9_bridge_19 h
  · have h := e2 e3
    refine v_aload_n C 0 dX9_bridge_8 rfl ?_
    refine v_getA C kX9 24 rfl rfl wd_840 rfl dX9_bridge_9 ?_
    refine v_iload_n C 1 dX9_bridge_12 rfl ?_
    obtain ⟨e4, e5, h⟩ := h
    refine v_iald C (ar_of (o := 13) rfl ar_9_24) dX9_bridge_13 e4 e5 ?_
    refine v_goto (tgt := 19) C dX9_bridge_14 (by decide) ?_
    exact v_iret C E dX9_bridge_19 h
def wp_X9_tell (v1 : Int) (v2 : Int) (T : TH) (Q : Int → TH → Prop) : Prop :=
  wp_X9_isOne v1 T (fun p2 T1 => (p2 = false → (Q (-1000000001) T1)) ∧ (p2 = true → (wp_X9_isFact v2 T1 (fun p4 T3 => (p4 = true → (wp_X9_knows 13 26 58 v1 v2 T3 (fun p6 T5 => (p6 = false → (0 ≤ ((8 * v1) + v2) ∧ ((8 * v1) + v2) < 58 ∧ ∀ T7 : TH, T7 = up T5 13 26 ((8 * v1) + v2) (T5 13 26 56) → wp_X9_headsOf 13 26 58 v2 T7 (fun r9 T8 => Q r9 T8))) ∧ (p6 = true → (Q (-1000000003) T5))))) ∧ (p4 = false → (Q (-1000000001) T3))))))
set_option maxRecDepth 100000 in
theorem s_X9_tell (G : GT) (l0 : Launch) {v1 : Int} {v2 : Int} {T : TH} {Q : Int → TH → Prop} (h : wp_X9_tell v1 v2 T Q) : MT G l0 yX9_tell cX9_tell 3 (some .int) 2 46 [.ref (gad G 13), .int (zI v1), .int (zI v2)] T (QI G Q) := by
  refine mt_of G l0 (by decide) (Nat.le_of_ble_eq_true rfl) (fun X C E => ?_)
  show V G X T 0 [(0, .ref (gad G 13)), (1, .int (zI v1)), (2, .int (zI v2))] []
  unfold wp_X9_tell at h
  refine v_aload_n C 0 dX9_tell_0 rfl ?_
  refine v_iload_n C 1 dX9_tell_1 rfl ?_
  refine v_cVZ C kX9 rfl (s_X9_isOne G l0 h) mv_X9_isOne wd_1033 ⟨by decide, by decide⟩ rfl rfl (Nat.le_of_ble_eq_true rfl) dX9_tell_2 (fun p2 T1 h => ?_)
  obtain ⟨e1, e2⟩ := h
  refine v_ifz_eq (tgt := 16) C dX9_tell_5 (by decide) (fun e3 => ?_) (fun e3 => ?_)
  · have h := e1 e3
    refine v_ldc (n := -1000000001) C dX9_tell_16 wd_1024 (by decide) ?_
    exact v_iret C E dX9_tell_18 h
  · have h := e2 e3
    refine v_aload_n C 0 dX9_tell_8 rfl ?_
    refine v_iload_n C 2 dX9_tell_9 rfl ?_
    refine v_cVZ C kX9 rfl (s_X9_isFact G l0 h) mv_X9_isFact wd_1020 ⟨by decide, by decide⟩ rfl rfl (Nat.le_of_ble_eq_true rfl) dX9_tell_10 (fun p4 T3 h => ?_)
    obtain ⟨e4, e5⟩ := h
    refine v_ifz_ne (tgt := 19) C dX9_tell_13 (by decide) (fun e6 => ?_) (fun e6 => ?_)
    · have h := e4 e6
      refine v_aload_n C 0 dX9_tell_19 rfl ?_
      refine v_getA C kX9 26 rfl rfl wd_842 rfl dX9_tell_20 ?_
      refine v_iload_n C 1 dX9_tell_23 rfl ?_
      refine v_iload_n C 2 dX9_tell_24 rfl ?_
      refine v_cSZ C (s_X9_knows G l0 (ar_of (o := 13) rfl ar_9_26) h) mv_X9_knows wd_1013 ⟨by decide, by decide⟩ rfl rfl (Nat.le_of_ble_eq_true rfl) dX9_tell_25 (fun p6 T5 h => ?_)
      obtain ⟨e7, e8⟩ := h
      refine v_ifz_eq (tgt := 34) C dX9_tell_28 (by decide) (fun e9 => ?_) (fun e9 => ?_)
      · have h := e7 e9
        refine v_aload_n C 0 dX9_tell_34 rfl ?_
        refine v_getA C kX9 26 rfl rfl wd_842 rfl dX9_tell_35 ?_
        refine v_bipush C dX9_tell_38 (by decide) ?_
        refine v_iload_n C 1 dX9_tell_40 rfl ?_
        refine v_imul C dX9_tell_41 ?_
        refine v_iload_n C 2 dX9_tell_42 rfl ?_
        refine v_iadd C dX9_tell_43 ?_
        refine v_aload_n C 0 dX9_tell_44 rfl ?_
        refine v_getA C kX9 26 rfl rfl wd_842 rfl dX9_tell_45 ?_
        refine v_bipush C dX9_tell_48 (by decide) ?_
        refine v_iald C (ar_of (o := 13) rfl ar_9_26) dX9_tell_50 (by decide) (by decide) ?_
        obtain ⟨e10, e11, h⟩ := h
        refine v_iast C (ar_of (o := 13) rfl ar_9_26) dX9_tell_51 e10 e11 ?_
        have h := h _ rfl
        refine v_aload_n C 0 dX9_tell_52 rfl ?_
        refine v_aload_n C 0 dX9_tell_53 rfl ?_
        refine v_getA C kX9 26 rfl rfl wd_842 rfl dX9_tell_54 ?_
        refine v_iload_n C 2 dX9_tell_57 rfl ?_
        refine v_cVI C kX9 rfl (s_X9_headsOf G l0 (ar_of (o := 13) rfl ar_9_26) h) mv_X9_headsOf wd_1005 ⟨by decide, by decide⟩ rfl rfl (Nat.le_of_ble_eq_true rfl) dX9_tell_58 (fun r9 T8 h => ?_)
        exact v_iret C E dX9_tell_61 h
      · have h := e8 e9
        refine v_ldc (n := -1000000003) C dX9_tell_31 wd_1073 (by decide) ?_
        exact v_iret C E dX9_tell_33 h
    · have h := e5 e6
      refine v_ldc (n := -1000000001) C dX9_tell_16 wd_1024 (by decide) ?_
      exact v_iret C E dX9_tell_18 h
def wp_X9_forget (v1 : Int) (v2 : Int) (T : TH) (Q : Int → TH → Prop) : Prop :=
  wp_X9_isOne v1 T (fun p2 T1 => (p2 = false → (Q (-1000000001) T1)) ∧ (p2 = true → (wp_X9_isFact v2 T1 (fun p4 T3 => (p4 = true → (wp_X9_knows 13 26 58 v1 v2 T3 (fun p6 T5 => (p6 = true → (0 ≤ ((8 * v1) + v2) ∧ ((8 * v1) + v2) < 58 ∧ ∀ T7 : TH, T7 = up T5 13 26 ((8 * v1) + v2) (-1) → wp_X9_headsOf 13 26 58 v2 T7 (fun r9 T8 => Q r9 T8))) ∧ (p6 = false → (Q (-1000000003) T5))))) ∧ (p4 = false → (Q (-1000000001) T3))))))
set_option maxRecDepth 100000 in
theorem s_X9_forget (G : GT) (l0 : Launch) {v1 : Int} {v2 : Int} {T : TH} {Q : Int → TH → Prop} (h : wp_X9_forget v1 v2 T Q) : MT G l0 yX9_forget cX9_forget 3 (some .int) 2 46 [.ref (gad G 13), .int (zI v1), .int (zI v2)] T (QI G Q) := by
  refine mt_of G l0 (by decide) (Nat.le_of_ble_eq_true rfl) (fun X C E => ?_)
  show V G X T 0 [(0, .ref (gad G 13)), (1, .int (zI v1)), (2, .int (zI v2))] []
  unfold wp_X9_forget at h
  refine v_aload_n C 0 dX9_forget_0 rfl ?_
  refine v_iload_n C 1 dX9_forget_1 rfl ?_
  refine v_cVZ C kX9 rfl (s_X9_isOne G l0 h) mv_X9_isOne wd_1033 ⟨by decide, by decide⟩ rfl rfl (Nat.le_of_ble_eq_true rfl) dX9_forget_2 (fun p2 T1 h => ?_)
  obtain ⟨e1, e2⟩ := h
  refine v_ifz_eq (tgt := 16) C dX9_forget_5 (by decide) (fun e3 => ?_) (fun e3 => ?_)
  · have h := e1 e3
    refine v_ldc (n := -1000000001) C dX9_forget_16 wd_1024 (by decide) ?_
    exact v_iret C E dX9_forget_18 h
  · have h := e2 e3
    refine v_aload_n C 0 dX9_forget_8 rfl ?_
    refine v_iload_n C 2 dX9_forget_9 rfl ?_
    refine v_cVZ C kX9 rfl (s_X9_isFact G l0 h) mv_X9_isFact wd_1020 ⟨by decide, by decide⟩ rfl rfl (Nat.le_of_ble_eq_true rfl) dX9_forget_10 (fun p4 T3 h => ?_)
    obtain ⟨e4, e5⟩ := h
    refine v_ifz_ne (tgt := 19) C dX9_forget_13 (by decide) (fun e6 => ?_) (fun e6 => ?_)
    · have h := e4 e6
      refine v_aload_n C 0 dX9_forget_19 rfl ?_
      refine v_getA C kX9 26 rfl rfl wd_842 rfl dX9_forget_20 ?_
      refine v_iload_n C 1 dX9_forget_23 rfl ?_
      refine v_iload_n C 2 dX9_forget_24 rfl ?_
      refine v_cSZ C (s_X9_knows G l0 (ar_of (o := 13) rfl ar_9_26) h) mv_X9_knows wd_1013 ⟨by decide, by decide⟩ rfl rfl (Nat.le_of_ble_eq_true rfl) dX9_forget_25 (fun p6 T5 h => ?_)
      obtain ⟨e7, e8⟩ := h
      refine v_ifz_ne (tgt := 34) C dX9_forget_28 (by decide) (fun e9 => ?_) (fun e9 => ?_)
      · have h := e7 e9
        refine v_aload_n C 0 dX9_forget_34 rfl ?_
        refine v_getA C kX9 26 rfl rfl wd_842 rfl dX9_forget_35 ?_
        refine v_bipush C dX9_forget_38 (by decide) ?_
        refine v_iload_n C 1 dX9_forget_40 rfl ?_
        refine v_imul C dX9_forget_41 ?_
        refine v_iload_n C 2 dX9_forget_42 rfl ?_
        refine v_iadd C dX9_forget_43 ?_
        refine v_iconst C dX9_forget_44 ?_
        obtain ⟨e10, e11, h⟩ := h
        refine v_iast C (ar_of (o := 13) rfl ar_9_26) dX9_forget_45 e10 e11 ?_
        have h := h _ rfl
        refine v_aload_n C 0 dX9_forget_46 rfl ?_
        refine v_aload_n C 0 dX9_forget_47 rfl ?_
        refine v_getA C kX9 26 rfl rfl wd_842 rfl dX9_forget_48 ?_
        refine v_iload_n C 2 dX9_forget_51 rfl ?_
        refine v_cVI C kX9 rfl (s_X9_headsOf G l0 (ar_of (o := 13) rfl ar_9_26) h) mv_X9_headsOf wd_1005 ⟨by decide, by decide⟩ rfl rfl (Nat.le_of_ble_eq_true rfl) dX9_forget_52 (fun r9 T8 h => ?_)
        exact v_iret C E dX9_forget_55 h
      · have h := e8 e9
        refine v_ldc (n := -1000000003) C dX9_forget_31 wd_1073 (by decide) ?_
        exact v_iret C E dX9_forget_33 h
    · have h := e5 e6
      refine v_ldc (n := -1000000001) C dX9_forget_16 wd_1024 (by decide) ?_
      exact v_iret C E dX9_forget_18 h
def wp_X9_barred (v1 : Int) (T : TH) (Q : Int → TH → Prop) : Prop :=
  wp_X9_in v1 1 99 T (fun p2 T1 => (p2 = true → (zR (T1 13 17 0) ∧ (¬ (T1 13 17 0) = 0 → (zR (T1 13 26 56) ∧ ((T1 13 26 56) ≤ 90000 → (Q 0 T1)) ∧ (¬ ((T1 13 26 56) ≤ 90000) → (Q (-1000000004) T1)))) ∧ ((T1 13 17 0) = 0 → (Q (-1000000003) T1)))) ∧ (p2 = false → (Q (-1000000002) T1)))
set_option maxRecDepth 100000 in
theorem s_X9_barred (G : GT) (l0 : Launch) {v1 : Int} {T : TH} {Q : Int → TH → Prop} (h : wp_X9_barred v1 T Q) : MT G l0 yX9_barred cX9_barred 2 (some .int) 1 22 [.ref (gad G 13), .int (zI v1)] T (QI G Q) := by
  refine mt_of G l0 (by decide) (Nat.le_of_ble_eq_true rfl) (fun X C E => ?_)
  show V G X T 0 [(0, .ref (gad G 13)), (1, .int (zI v1))] []
  unfold wp_X9_barred at h
  refine v_iload_n C 1 dX9_barred_0 rfl ?_
  refine v_iconst C dX9_barred_1 ?_
  refine v_bipush C dX9_barred_2 (by decide) ?_
  refine v_cSZ C (s_X9_in G l0 h) mv_X9_in wd_937 ⟨by decide, by decide⟩ rfl rfl (Nat.le_of_ble_eq_true rfl) dX9_barred_4 (fun p2 T1 h => ?_)
  obtain ⟨e1, e2⟩ := h
  refine v_ifz_ne (tgt := 15) C dX9_barred_7 (by decide) (fun e3 => ?_) (fun e3 => ?_)
  · have h := e1 e3
    refine v_aload_n C 0 dX9_barred_15 rfl ?_
    refine v_getI C kX9 17 rfl rfl wd_833 rfl dX9_barred_16 ?_
    obtain ⟨e4, e5, e6⟩ := h
    refine v_if_ne (tgt := 27) C dX9_barred_19 (by decide) e4 (fun e7 => ?_) (fun e7 => ?_)
    · have h := e5 e7
      refine v_aload_n C 0 dX9_barred_27 rfl ?_
      refine v_getA C kX9 26 rfl rfl wd_842 rfl dX9_barred_28 ?_
      refine v_bipush C dX9_barred_31 (by decide) ?_
      refine v_iald C (ar_of (o := 13) rfl ar_9_26) dX9_barred_33 (by decide) (by decide) ?_
      refine v_ldc (n := 90000) C dX9_barred_34 wd_1086 (by decide) ?_
      obtain ⟨e8, e9, e10⟩ := h
      refine v_icmp_le (tgt := 44) C dX9_barred_36 (by decide) e8 ⟨by decide, by decide⟩ (fun e11 => ?_) (fun e11 => ?_)
      · have h := e9 e11
        refine v_iconst C dX9_barred_44 ?_
        exact v_iret C E dX9_barred_45 h
      · have h := e10 e11
        refine v_ldc (n := -1000000004) C dX9_barred_39 wd_941 (by decide) ?_
        refine v_goto (tgt := 45) C dX9_barred_41 (by decide) ?_
        exact v_iret C E dX9_barred_45 h
    · have h := e6 e7
      refine v_ldc (n := -1000000003) C dX9_barred_22 wd_1073 (by decide) ?_
      refine v_goto (tgt := 45) C dX9_barred_24 (by decide) ?_
      exact v_iret C E dX9_barred_45 h
  · have h := e2 e3
    refine v_ldc (n := -1000000002) C dX9_barred_10 wd_940 (by decide) ?_
    refine v_goto (tgt := 45) C dX9_barred_12 (by decide) ?_
    exact v_iret C E dX9_barred_45 h
def h_X9_hour_27 (v1 : Int) (Q : Int → TH → Prop) : Nat → Int → TH → Prop
  | 0, _, _ => False
  | n + 1, v3, T => zR v3 ∧ zR v1 ∧ (v1 ≤ v3 → (wp_X9_copy 13 27 58 0 13 26 58 0 T (fun T1 => Q (T1 13 26 56) T1))) ∧ (¬ (v1 ≤ v3) → (wp_X9_pass T (fun T2 => (h_X9_hour_27 v1 Q n) (v3 + 1) T2)))
def wp_X9_hour (v1 : Int) (T : TH) (Q : Int → TH → Prop) : Prop :=
  wp_X9_barred v1 T (fun r2 T1 => zR r2 ∧ (0 ≤ r2 → (wp_X9_copy 13 26 58 0 13 27 58 0 T1 (fun T3 => (∃ m9 : Nat, h_X9_hour_27 v1 Q m9 0 T3)))) ∧ (¬ (0 ≤ r2) → (Q r2 T1)))
set_option maxRecDepth 100000 in
theorem t_X9_hour_27 {G : GT} {l0 : Launch} {X : CX} (C : CT G l0 X cX9_hour 4 RX9 (rM 4 92)) {Q : Int → TH → Prop} (E : EN G X (some .int) (QI G Q)) {v1 : Int} : ∀ (n : Nat) (v3 : Int) (T : TH), h_X9_hour_27 v1 Q n v3 T → V G X T 27 [(0, .ref (gad G 13)), (1, .int (zI v1)), (3, .int (zI v3))] [] := by
  intro n
  induction n with
  | zero =>
    intro v3 T h
    exact h.elim
  | succ n ih =>
    intro v3 T h
    rw [h_X9_hour_27] at h
    refine v_iload_n C 2 dX9_hour_27 rfl ?_
    refine v_iload_n C 1 dX9_hour_28 rfl ?_
    obtain ⟨e1, e2, e3, e4⟩ := h
    refine v_icmp_ge (tgt := 42) C dX9_hour_29 (by decide) e1 e2 (fun e5 => ?_) (fun e5 => ?_)
    · have h := e3 e5
      refine v_aload_n C 0 dX9_hour_42 rfl ?_
      refine v_getA C kX9 27 rfl rfl wd_843 rfl dX9_hour_43 ?_
      refine v_iconst C dX9_hour_46 ?_
      refine v_aload_n C 0 dX9_hour_47 rfl ?_
      refine v_getA C kX9 26 rfl rfl wd_842 rfl dX9_hour_48 ?_
      refine v_iconst C dX9_hour_51 ?_
      refine v_cSN C (s_X9_copy G l0 (ar_of (o := 13) rfl ar_9_27) (ar_of (o := 13) rfl ar_9_26) h) mv_X9_copy wd_1087 ⟨by decide, by decide⟩ rfl rfl (Nat.le_of_ble_eq_true rfl) dX9_hour_52 (fun T1 h => ?_)
      refine v_aload_n C 0 dX9_hour_55 rfl ?_
      refine v_getA C kX9 26 rfl rfl wd_842 rfl dX9_hour_56 ?_
      refine v_bipush C dX9_hour_59 (by decide) ?_
      refine v_iald C (ar_of (o := 13) rfl ar_9_26) dX9_hour_61 (by decide) (by decide) ?_
      exact v_iret C E dX9_hour_62 h
    · have h := e4 e5
      refine v_aload_n C 0 dX9_hour_32 rfl ?_
      refine v_cVN C kX9 rfl (s_X9_pass G l0 h) mv_X9_pass wd_1090 ⟨by decide, by decide⟩ rfl rfl (Nat.le_of_ble_eq_true rfl) dX9_hour_33 (fun T2 h => ?_)
      refine v_iinc C 2 dX9_hour_36 rfl (by decide) ?_
      refine v_goto (tgt := 27) C dX9_hour_39 (by decide) ?_
      exact v_sub [1, 2, 0] rfl (ih _ _ h)
set_option maxRecDepth 100000 in
theorem s_X9_hour (G : GT) (l0 : Launch) {v1 : Int} {T : TH} {Q : Int → TH → Prop} (h : wp_X9_hour v1 T Q) : MT G l0 yX9_hour cX9_hour 4 (some .int) 4 92 [.ref (gad G 13), .int (zI v1)] T (QI G Q) := by
  refine mt_of G l0 (by decide) (Nat.le_of_ble_eq_true rfl) (fun X C E => ?_)
  show V G X T 0 [(0, .ref (gad G 13)), (1, .int (zI v1))] []
  unfold wp_X9_hour at h
  refine v_aload_n C 0 dX9_hour_0 rfl ?_
  refine v_iload_n C 1 dX9_hour_1 rfl ?_
  refine v_cVI C kX9 rfl (s_X9_barred G l0 h) mv_X9_barred wd_1082 ⟨by decide, by decide⟩ rfl rfl (Nat.le_of_ble_eq_true rfl) dX9_hour_2 (fun r2 T1 h => ?_)
  refine v_istore_n C dX9_hour_5 rfl (by decide) ?_
  refine v_iload_n C 0 dX9_hour_6 rfl ?_
  obtain ⟨e1, e2, e3⟩ := h
  refine v_if_ge (tgt := 12) C dX9_hour_7 (by decide) e1 (fun e4 => ?_) (fun e4 => ?_)
  · have h := e2 e4
    refine v_aload_n C 1 dX9_hour_12 rfl ?_
    refine v_getA C kX9 26 rfl rfl wd_842 rfl dX9_hour_13 ?_
    refine v_iconst C dX9_hour_16 ?_
    refine v_aload_n C 1 dX9_hour_17 rfl ?_
    refine v_getA C kX9 27 rfl rfl wd_843 rfl dX9_hour_18 ?_
    refine v_iconst C dX9_hour_21 ?_
    refine v_cSN C (s_X9_copy G l0 (ar_of (o := 13) rfl ar_9_26) (ar_of (o := 13) rfl ar_9_27) h) mv_X9_copy wd_1087 ⟨by decide, by decide⟩ rfl rfl (Nat.le_of_ble_eq_true rfl) dX9_hour_22 (fun T3 h => ?_)
    refine v_iconst C dX9_hour_25 ?_
    refine v_istore_n C dX9_hour_26 rfl (by decide) ?_
    obtain ⟨n9, h⟩ := h
    exact v_sub [2, 3, 0] rfl (t_X9_hour_27 C E n9 _ _ h)
  · have h := e3 e4
    refine v_iload_n C 0 dX9_hour_10 rfl ?_
    exact v_iret C E dX9_hour_11 h
def wp_X9_draw (v1 : Int) (T : TH) (Q : Int → TH → Prop) : Prop :=
  zR (T 13 27 57) ∧ ∀ T1 : TH, T1 = up T 13 27 57 (zremL (((T 13 27 57) * 1103515245) + 12345) 2147483648) → zR v1 ∧ v1 ≠ 0 ∧ Q (zrem (zdiv (T1 13 27 57) 65536) v1) T1
set_option maxRecDepth 100000 in
theorem s_X9_draw (G : GT) (l0 : Launch) {v1 : Int} {T : TH} {Q : Int → TH → Prop} (h : wp_X9_draw v1 T Q) : MT G l0 yX9_draw cX9_draw 2 (some .int) 0 0 [.ref (gad G 13), .int (zI v1)] T (QI G Q) := by
  refine mt_of G l0 (by decide) (Nat.le_of_ble_eq_true rfl) (fun X C E => ?_)
  show V G X T 0 [(0, .ref (gad G 13)), (1, .int (zI v1))] []
  unfold wp_X9_draw at h
  refine v_aload_n C 0 dX9_draw_0 rfl ?_
  refine v_getA C kX9 27 rfl rfl wd_843 rfl dX9_draw_1 ?_
  refine v_bipush C dX9_draw_4 (by decide) ?_
  refine v_aload_n C 0 dX9_draw_6 rfl ?_
  refine v_getA C kX9 27 rfl rfl wd_843 rfl dX9_draw_7 ?_
  refine v_bipush C dX9_draw_10 (by decide) ?_
  refine v_iald C (ar_of (o := 13) rfl ar_9_27) dX9_draw_12 (by decide) (by decide) ?_
  obtain ⟨e1, h⟩ := h
  refine v_i2l C dX9_draw_13 e1 ?_
  refine v_ldc2 (n := 1103515245) C dX9_draw_14 wd_1106 (by decide) ?_
  refine v_lmul C dX9_draw_17 ?_
  refine v_ldc2 (n := 12345) C dX9_draw_18 wd_1107 (by decide) ?_
  refine v_ladd C dX9_draw_21 ?_
  refine v_ldc2 (n := 2147483648) C dX9_draw_22 wd_1108 (by decide) ?_
  refine v_lrem C dX9_draw_25 ⟨by decide, by decide⟩ (by decide) ?_
  refine v_l2i C dX9_draw_26 ?_
  refine v_iast C (ar_of (o := 13) rfl ar_9_27) dX9_draw_27 (by decide) (by decide) ?_
  have h := h _ rfl
  refine v_aload_n C 0 dX9_draw_28 rfl ?_
  refine v_getA C kX9 27 rfl rfl wd_843 rfl dX9_draw_29 ?_
  refine v_bipush C dX9_draw_32 (by decide) ?_
  refine v_iald C (ar_of (o := 13) rfl ar_9_27) dX9_draw_34 (by decide) (by decide) ?_
  refine v_ldc (n := 65536) C dX9_draw_35 wd_1109 (by decide) ?_
  refine v_idiv C dX9_draw_37 ⟨by decide, by decide⟩ (by decide) ?_
  refine v_iload_n C 1 dX9_draw_38 rfl ?_
  obtain ⟨e2, e3, h⟩ := h
  refine v_irem C dX9_draw_39 e2 e3 ?_
  exact v_iret C E dX9_draw_40 h
def b_X9_drift_97 (v1 : Int) (Q : Int → TH → Prop) (K27 : Int → TH → Prop) (v3 : Int) (T : TH) : Prop :=
  wp_X9_pass T (fun T1 => K27 (v3 + 1) T1)
def b_X9_drift_96 (v1 : Int) (Q : Int → TH → Prop) (K27 : Int → TH → Prop) (v3 : Int) (s1 : Int) (s2 : Int) (T : TH) : Prop :=
  0 ≤ s1 ∧ s1 < 58 ∧ ∀ T1 : TH, T1 = up T 13 27 s1 s2 → b_X9_drift_97 v1 Q K27 v3 T1
def h_X9_drift_27 (v1 : Int) (Q : Int → TH → Prop) : Nat → Int → TH → Prop
  | 0, _, _ => False
  | n + 1, v3, T => zR v3 ∧ zR v1 ∧ (v1 ≤ v3 → (wp_X9_copy 13 27 58 0 13 26 58 0 T (fun T1 => Q (T1 13 26 56) T1))) ∧ (¬ (v1 ≤ v3) → (wp_X9_draw (T 13 17 0) T (fun r3 T2 => zR (T2 13 18 0) ∧ ((T2 13 18 0) ≤ 0 → (b_X9_drift_97 v1 Q (h_X9_drift_27 v1 Q n) v3 T2)) ∧ (¬ ((T2 13 18 0) ≤ 0) → (wp_X9_draw (T2 13 18 0) T2 (fun r5 T4 => wp_X9_knows 13 27 58 r3 r5 T4 (fun p7 T6 => (p7 = false → (b_X9_drift_96 v1 Q (h_X9_drift_27 v1 Q n) v3 ((8 * r3) + r5) (T6 13 27 56) T6)) ∧ (p7 = true → (b_X9_drift_96 v1 Q (h_X9_drift_27 v1 Q n) v3 ((8 * r3) + r5) (-1) T6)))))))))
def wp_X9_drift (v1 : Int) (T : TH) (Q : Int → TH → Prop) : Prop :=
  wp_X9_barred v1 T (fun r2 T1 => zR r2 ∧ (0 ≤ r2 → (wp_X9_copy 13 26 58 0 13 27 58 0 T1 (fun T3 => (∃ m9 : Nat, h_X9_drift_27 v1 Q m9 0 T3)))) ∧ (¬ (0 ≤ r2) → (Q r2 T1)))
set_option maxRecDepth 100000 in
theorem t_X9_drift_97 {G : GT} {l0 : Launch} {X : CX} (C : CT G l0 X cX9_drift 6 RX9 (rM 4 92)) {Q : Int → TH → Prop} (E : EN G X (some .int) (QI G Q)) {v1 : Int} {K27 : Int → TH → Prop} (k27 : ∀ (v3 : Int) (T : TH), K27 v3 T → V G X T 27 [(0, .ref (gad G 13)), (1, .int (zI v1)), (3, .int (zI v3))] []) {v3 : Int} {T : TH} (h : b_X9_drift_97 v1 Q K27 v3 T) : V G X T 97 [(0, .ref (gad G 13)), (1, .int (zI v1)), (3, .int (zI v3))] [] := by
  unfold b_X9_drift_97 at h
  refine v_aload_n C 0 dX9_drift_97 rfl ?_
  refine v_cVN C kX9 rfl (s_X9_pass G l0 h) mv_X9_pass wd_1090 ⟨by decide, by decide⟩ rfl rfl (Nat.le_of_ble_eq_true rfl) dX9_drift_98 (fun T1 h => ?_)
  refine v_iinc C 2 dX9_drift_101 rfl (by decide) ?_
  refine v_goto (tgt := 27) C dX9_drift_104 (by decide) ?_
  exact v_sub [1, 2, 0] rfl (k27 _ _ h)
set_option maxRecDepth 100000 in
theorem t_X9_drift_96 {G : GT} {l0 : Launch} {X : CX} (C : CT G l0 X cX9_drift 6 RX9 (rM 4 92)) {Q : Int → TH → Prop} (E : EN G X (some .int) (QI G Q)) {v1 : Int} {K27 : Int → TH → Prop} (k27 : ∀ (v3 : Int) (T : TH), K27 v3 T → V G X T 27 [(0, .ref (gad G 13)), (1, .int (zI v1)), (3, .int (zI v3))] []) {v3 : Int} {s1 : Int} {s2 : Int} {T : TH} (h : b_X9_drift_96 v1 Q K27 v3 s1 s2 T) : V G X T 96 [(0, .ref (gad G 13)), (1, .int (zI v1)), (3, .int (zI v3))] [.int (zI s2), .int (zI s1), .ref (gaa G 13 27)] := by
  unfold b_X9_drift_96 at h
  obtain ⟨e1, e2, h⟩ := h
  refine v_iast C (ar_of (o := 13) rfl ar_9_27) dX9_drift_96 e1 e2 ?_
  have h := h _ rfl
  exact v_sub [0, 1, 2] rfl (t_X9_drift_97 C E k27 h)
set_option maxRecDepth 100000 in
theorem t_X9_drift_27 {G : GT} {l0 : Launch} {X : CX} (C : CT G l0 X cX9_drift 6 RX9 (rM 4 92)) {Q : Int → TH → Prop} (E : EN G X (some .int) (QI G Q)) {v1 : Int} : ∀ (n : Nat) (v3 : Int) (T : TH), h_X9_drift_27 v1 Q n v3 T → V G X T 27 [(0, .ref (gad G 13)), (1, .int (zI v1)), (3, .int (zI v3))] [] := by
  intro n
  induction n with
  | zero =>
    intro v3 T h
    exact h.elim
  | succ n ih =>
    intro v3 T h
    rw [h_X9_drift_27] at h
    refine v_iload_n C 2 dX9_drift_27 rfl ?_
    refine v_iload_n C 1 dX9_drift_28 rfl ?_
    obtain ⟨e1, e2, e3, e4⟩ := h
    refine v_icmp_ge (tgt := 107) C dX9_drift_29 (by decide) e1 e2 (fun e5 => ?_) (fun e5 => ?_)
    · have h := e3 e5
      refine v_aload_n C 0 dX9_drift_107 rfl ?_
      refine v_getA C kX9 27 rfl rfl wd_843 rfl dX9_drift_108 ?_
      refine v_iconst C dX9_drift_111 ?_
      refine v_aload_n C 0 dX9_drift_112 rfl ?_
      refine v_getA C kX9 26 rfl rfl wd_842 rfl dX9_drift_113 ?_
      refine v_iconst C dX9_drift_116 ?_
      refine v_cSN C (s_X9_copy G l0 (ar_of (o := 13) rfl ar_9_27) (ar_of (o := 13) rfl ar_9_26) h) mv_X9_copy wd_1087 ⟨by decide, by decide⟩ rfl rfl (Nat.le_of_ble_eq_true rfl) dX9_drift_117 (fun T1 h => ?_)
      refine v_aload_n C 0 dX9_drift_120 rfl ?_
      refine v_getA C kX9 26 rfl rfl wd_842 rfl dX9_drift_121 ?_
      refine v_bipush C dX9_drift_124 (by decide) ?_
      refine v_iald C (ar_of (o := 13) rfl ar_9_26) dX9_drift_126 (by decide) (by decide) ?_
      exact v_iret C E dX9_drift_127 h
    · have h := e4 e5
      refine v_aload_n C 0 dX9_drift_32 rfl ?_
      refine v_aload_n C 0 dX9_drift_33 rfl ?_
      refine v_getI C kX9 17 rfl rfl wd_833 rfl dX9_drift_34 ?_
      refine v_cVI C kX9 rfl (s_X9_draw G l0 h) mv_X9_draw wd_1102 ⟨by decide, by decide⟩ rfl rfl (Nat.le_of_ble_eq_true rfl) dX9_drift_37 (fun r3 T2 h => ?_)
      refine v_istore C dX9_drift_40 (by decide) ?_
      refine v_aload_n C 1 dX9_drift_42 rfl ?_
      refine v_getI C kX9 18 rfl rfl wd_834 rfl dX9_drift_43 ?_
      obtain ⟨e6, e7, e8⟩ := h
      refine v_if_le (tgt := 97) C dX9_drift_46 (by decide) e6 (fun e9 => ?_) (fun e9 => ?_)
      · have h := e7 e9
        exact v_sub [1, 2, 3] rfl (t_X9_drift_97 C E ih h)
      · have h := e8 e9
        refine v_aload_n C 1 dX9_drift_49 rfl ?_
        refine v_aload_n C 1 dX9_drift_50 rfl ?_
        refine v_getI C kX9 18 rfl rfl wd_834 rfl dX9_drift_51 ?_
        refine v_cVI C kX9 rfl (s_X9_draw G l0 h) mv_X9_draw wd_1102 ⟨by decide, by decide⟩ rfl rfl (Nat.le_of_ble_eq_true rfl) dX9_drift_54 (fun r5 T4 h => ?_)
        refine v_istore C dX9_drift_57 (by decide) ?_
        refine v_aload_n C 2 dX9_drift_59 rfl ?_
        refine v_getA C kX9 27 rfl rfl wd_843 rfl dX9_drift_60 ?_
        refine v_bipush C dX9_drift_63 (by decide) ?_
        refine v_iload C 1 dX9_drift_65 rfl ?_
        refine v_imul C dX9_drift_67 ?_
        refine v_iload C 0 dX9_drift_68 rfl ?_
        refine v_iadd C dX9_drift_70 ?_
        refine v_aload_n C 2 dX9_drift_71 rfl ?_
        refine v_getA C kX9 27 rfl rfl wd_843 rfl dX9_drift_72 ?_
        refine v_iload C 1 dX9_drift_75 rfl ?_
        refine v_iload C 0 dX9_drift_77 rfl ?_
        refine v_cSZ C (s_X9_knows G l0 (ar_of (o := 13) rfl ar_9_27) h) mv_X9_knows wd_1013 ⟨by decide, by decide⟩ rfl rfl (Nat.le_of_ble_eq_true rfl) dX9_drift_79 (fun p7 T6 h => ?_)
        obtain ⟨e10, e11⟩ := h
        refine v_ifz_eq (tgt := 89) C dX9_drift_82 (by decide) (fun e12 => ?_) (fun e12 => ?_)
        · have h := e10 e12
          refine v_aload_n C 2 dX9_drift_89 rfl ?_
          refine v_getA C kX9 27 rfl rfl wd_843 rfl dX9_drift_90 ?_
          refine v_bipush C dX9_drift_93 (by decide) ?_
          refine v_iald C (ar_of (o := 13) rfl ar_9_27) dX9_drift_95 (by decide) (by decide) ?_
          exact v_sub [2, 3, 4] rfl (t_X9_drift_96 C E ih h)
        · have h := e11 e12
          refine v_iconst C dX9_drift_85 ?_
          refine v_goto (tgt := 96) C dX9_drift_86 (by decide) ?_
          exact v_sub [2, 3, 4] rfl (t_X9_drift_96 C E ih h)
set_option maxRecDepth 100000 in
theorem s_X9_drift (G : GT) (l0 : Launch) {v1 : Int} {T : TH} {Q : Int → TH → Prop} (h : wp_X9_drift v1 T Q) : MT G l0 yX9_drift cX9_drift 6 (some .int) 4 92 [.ref (gad G 13), .int (zI v1)] T (QI G Q) := by
  refine mt_of G l0 (by decide) (Nat.le_of_ble_eq_true rfl) (fun X C E => ?_)
  show V G X T 0 [(0, .ref (gad G 13)), (1, .int (zI v1))] []
  unfold wp_X9_drift at h
  refine v_aload_n C 0 dX9_drift_0 rfl ?_
  refine v_iload_n C 1 dX9_drift_1 rfl ?_
  refine v_cVI C kX9 rfl (s_X9_barred G l0 h) mv_X9_barred wd_1082 ⟨by decide, by decide⟩ rfl rfl (Nat.le_of_ble_eq_true rfl) dX9_drift_2 (fun r2 T1 h => ?_)
  refine v_istore_n C dX9_drift_5 rfl (by decide) ?_
  refine v_iload_n C 0 dX9_drift_6 rfl ?_
  obtain ⟨e1, e2, e3⟩ := h
  refine v_if_ge (tgt := 12) C dX9_drift_7 (by decide) e1 (fun e4 => ?_) (fun e4 => ?_)
  · have h := e2 e4
    refine v_aload_n C 1 dX9_drift_12 rfl ?_
    refine v_getA C kX9 26 rfl rfl wd_842 rfl dX9_drift_13 ?_
    refine v_iconst C dX9_drift_16 ?_
    refine v_aload_n C 1 dX9_drift_17 rfl ?_
    refine v_getA C kX9 27 rfl rfl wd_843 rfl dX9_drift_18 ?_
    refine v_iconst C dX9_drift_21 ?_
    refine v_cSN C (s_X9_copy G l0 (ar_of (o := 13) rfl ar_9_26) (ar_of (o := 13) rfl ar_9_27) h) mv_X9_copy wd_1087 ⟨by decide, by decide⟩ rfl rfl (Nat.le_of_ble_eq_true rfl) dX9_drift_22 (fun T3 h => ?_)
    refine v_iconst C dX9_drift_25 ?_
    refine v_istore_n C dX9_drift_26 rfl (by decide) ?_
    obtain ⟨n9, h⟩ := h
    exact v_sub [2, 3, 0] rfl (t_X9_drift_27 C E n9 _ _ h)
  · have h := e3 e4
    refine v_iload_n C 0 dX9_drift_10 rfl ?_
    exact v_iret C E dX9_drift_11 h
def h_X9_heavy_39 (v1 : Int) (v2 : Int) (Q : Int → TH → Prop) : Nat → Int → TH → Prop
  | 0, _, _ => False
  | n + 1, v3, T => zR v3 ∧ zR v2 ∧ (v2 ≤ v3 → (wp_X9_weightOf 13 27 58 v1 T (fun r2 T1 => Q r2 T1))) ∧ (¬ (v2 ≤ v3) → (wp_X9_pass T (fun T3 => (h_X9_heavy_39 v1 v2 Q n) (v3 + 1) T3)))
def wp_X9_heavy (v1 : Int) (v2 : Int) (T : TH) (Q : Int → TH → Prop) : Prop :=
  wp_X9_isOne v1 T (fun p2 T1 => (p2 = true → (wp_X9_in v2 0 99 T1 (fun p4 T3 => (p4 = true → (wp_X9_copy 13 26 58 0 13 27 58 0 T3 (fun T5 => (∃ m9 : Nat, h_X9_heavy_39 v1 v2 Q m9 0 T5)))) ∧ (p4 = false → (Q (-1000000002) T3))))) ∧ (p2 = false → (Q (-1000000001) T1)))
set_option maxRecDepth 100000 in
theorem t_X9_heavy_39 {G : GT} {l0 : Launch} {X : CX} (C : CT G l0 X cX9_heavy 4 RX9 (rM 4 92)) {Q : Int → TH → Prop} (E : EN G X (some .int) (QI G Q)) {v1 : Int} {v2 : Int} : ∀ (n : Nat) (v3 : Int) (T : TH), h_X9_heavy_39 v1 v2 Q n v3 T → V G X T 39 [(0, .ref (gad G 13)), (1, .int (zI v1)), (2, .int (zI v2)), (3, .int (zI v3))] [] := by
  intro n
  induction n with
  | zero =>
    intro v3 T h
    exact h.elim
  | succ n ih =>
    intro v3 T h
    rw [h_X9_heavy_39] at h
    refine v_iload_n C 3 dX9_heavy_39 rfl ?_
    refine v_iload_n C 2 dX9_heavy_40 rfl ?_
    obtain ⟨e1, e2, e3, e4⟩ := h
    refine v_icmp_ge (tgt := 54) C dX9_heavy_41 (by decide) e1 e2 (fun e5 => ?_) (fun e5 => ?_)
    · have h := e3 e5
      refine v_aload_n C 0 dX9_heavy_54 rfl ?_
      refine v_aload_n C 0 dX9_heavy_55 rfl ?_
      refine v_getA C kX9 27 rfl rfl wd_843 rfl dX9_heavy_56 ?_
      refine v_iload_n C 1 dX9_heavy_59 rfl ?_
      refine v_cVI C kX9 rfl (s_X9_weightOf G l0 (ar_of (o := 13) rfl ar_9_27) h) mv_X9_weightOf wd_1049 ⟨by decide, by decide⟩ rfl rfl (Nat.le_of_ble_eq_true rfl) dX9_heavy_60 (fun r2 T1 h => ?_)
      exact v_iret C E dX9_heavy_63 h
    · have h := e4 e5
      refine v_aload_n C 0 dX9_heavy_44 rfl ?_
      refine v_cVN C kX9 rfl (s_X9_pass G l0 h) mv_X9_pass wd_1090 ⟨by decide, by decide⟩ rfl rfl (Nat.le_of_ble_eq_true rfl) dX9_heavy_45 (fun T3 h => ?_)
      refine v_iinc C 3 dX9_heavy_48 rfl (by decide) ?_
      refine v_goto (tgt := 39) C dX9_heavy_51 (by decide) ?_
      exact v_sub [1, 2, 3, 0] rfl (ih _ _ h)
set_option maxRecDepth 100000 in
theorem s_X9_heavy (G : GT) (l0 : Launch) {v1 : Int} {v2 : Int} {T : TH} {Q : Int → TH → Prop} (h : wp_X9_heavy v1 v2 T Q) : MT G l0 yX9_heavy cX9_heavy 4 (some .int) 4 92 [.ref (gad G 13), .int (zI v1), .int (zI v2)] T (QI G Q) := by
  refine mt_of G l0 (by decide) (Nat.le_of_ble_eq_true rfl) (fun X C E => ?_)
  show V G X T 0 [(0, .ref (gad G 13)), (1, .int (zI v1)), (2, .int (zI v2))] []
  unfold wp_X9_heavy at h
  refine v_aload_n C 0 dX9_heavy_0 rfl ?_
  refine v_iload_n C 1 dX9_heavy_1 rfl ?_
  refine v_cVZ C kX9 rfl (s_X9_isOne G l0 h) mv_X9_isOne wd_1033 ⟨by decide, by decide⟩ rfl rfl (Nat.le_of_ble_eq_true rfl) dX9_heavy_2 (fun p2 T1 h => ?_)
  obtain ⟨e1, e2⟩ := h
  refine v_ifz_ne (tgt := 11) C dX9_heavy_5 (by decide) (fun e3 => ?_) (fun e3 => ?_)
  · have h := e1 e3
    refine v_iload_n C 2 dX9_heavy_11 rfl ?_
    refine v_iconst C dX9_heavy_12 ?_
    refine v_bipush C dX9_heavy_13 (by decide) ?_
    refine v_cSZ C (s_X9_in G l0 h) mv_X9_in wd_937 ⟨by decide, by decide⟩ rfl rfl (Nat.le_of_ble_eq_true rfl) dX9_heavy_15 (fun p4 T3 h => ?_)
    obtain ⟨e4, e5⟩ := h
    refine v_ifz_ne (tgt := 24) C dX9_heavy_18 (by decide) (fun e6 => ?_) (fun e6 => ?_)
    · have h := e4 e6
      refine v_aload_n C 0 dX9_heavy_24 rfl ?_
      refine v_getA C kX9 26 rfl rfl wd_842 rfl dX9_heavy_25 ?_
      refine v_iconst C dX9_heavy_28 ?_
      refine v_aload_n C 0 dX9_heavy_29 rfl ?_
      refine v_getA C kX9 27 rfl rfl wd_843 rfl dX9_heavy_30 ?_
      refine v_iconst C dX9_heavy_33 ?_
      refine v_cSN C (s_X9_copy G l0 (ar_of (o := 13) rfl ar_9_26) (ar_of (o := 13) rfl ar_9_27) h) mv_X9_copy wd_1087 ⟨by decide, by decide⟩ rfl rfl (Nat.le_of_ble_eq_true rfl) dX9_heavy_34 (fun T5 h => ?_)
      refine v_iconst C dX9_heavy_37 ?_
      refine v_istore_n C dX9_heavy_38 rfl (by decide) ?_
      obtain ⟨n9, h⟩ := h
      exact v_sub [1, 2, 3, 0] rfl (t_X9_heavy_39 C E n9 _ _ h)
    · have h := e5 e6
      refine v_ldc (n := -1000000002) C dX9_heavy_21 wd_940 (by decide) ?_
      exact v_iret C E dX9_heavy_23 h
  · have h := e2 e3
    refine v_ldc (n := -1000000001) C dX9_heavy_8 wd_1024 (by decide) ?_
    exact v_iret C E dX9_heavy_10 h
def h_X9_when_34 (v1 : Int) (v2 : Int) (Q : Int → TH → Prop) : Nat → Int → TH → Prop
  | 0, _, _ => False
  | n + 1, v3, T => zR v3 ∧ (100 ≤ v3 → (Q (-1) T)) ∧ (¬ (100 ≤ v3) → (wp_X9_weightOf 13 27 58 v1 T (fun r2 T1 => 0 ≤ v2 ∧ v2 < 4 ∧ zR r2 ∧ zR (T1 13 24 v2) ∧ ((T1 13 24 v2) < r2 → (wp_X9_pass T1 (fun T3 => (h_X9_when_34 v1 v2 Q n) (v3 + 1) T3))) ∧ (¬ ((T1 13 24 v2) < r2) → (Q v3 T1)))))
def wp_X9_when (v1 : Int) (v2 : Int) (T : TH) (Q : Int → TH → Prop) : Prop :=
  wp_X9_isOne v1 T (fun p2 T1 => (p2 = false → (Q (-1000000001) T1)) ∧ (p2 = true → (wp_X9_isBridge v2 T1 (fun p4 T3 => (p4 = true → (wp_X9_copy 13 26 58 0 13 27 58 0 T3 (fun T5 => (∃ m9 : Nat, h_X9_when_34 v1 v2 Q m9 0 T5)))) ∧ (p4 = false → (Q (-1000000001) T3))))))
set_option maxRecDepth 100000 in
theorem t_X9_when_34 {G : GT} {l0 : Launch} {X : CX} (C : CT G l0 X cX9_when 4 RX9 (rM 4 92)) {Q : Int → TH → Prop} (E : EN G X (some .int) (QI G Q)) {v1 : Int} {v2 : Int} : ∀ (n : Nat) (v3 : Int) (T : TH), h_X9_when_34 v1 v2 Q n v3 T → V G X T 34 [(0, .ref (gad G 13)), (1, .int (zI v1)), (2, .int (zI v2)), (3, .int (zI v3))] [] := by
  intro n
  induction n with
  | zero =>
    intro v3 T h
    exact h.elim
  | succ n ih =>
    intro v3 T h
    rw [h_X9_when_34] at h
    refine v_iload_n C 3 dX9_when_34 rfl ?_
    refine v_bipush C dX9_when_35 (by decide) ?_
    obtain ⟨e1, e2, e3⟩ := h
    refine v_icmp_ge (tgt := 70) C dX9_when_37 (by decide) e1 ⟨by decide, by decide⟩ (fun e4 => ?_) (fun e4 => ?_)
    · have h := e2 e4
      refine v_iconst C dX9_when_70 ?_
      exact v_iret C E dX9_when_71 h
    · have h := e3 e4
      refine v_aload_n C 0 dX9_when_40 rfl ?_
      refine v_aload_n C 0 dX9_when_41 rfl ?_
      refine v_getA C kX9 27 rfl rfl wd_843 rfl dX9_when_42 ?_
      refine v_iload_n C 1 dX9_when_45 rfl ?_
      refine v_cVI C kX9 rfl (s_X9_weightOf G l0 (ar_of (o := 13) rfl ar_9_27) h) mv_X9_weightOf wd_1049 ⟨by decide, by decide⟩ rfl rfl (Nat.le_of_ble_eq_true rfl) dX9_when_46 (fun r2 T1 h => ?_)
      refine v_aload_n C 0 dX9_when_49 rfl ?_
      refine v_getA C kX9 24 rfl rfl wd_840 rfl dX9_when_50 ?_
      refine v_iload_n C 2 dX9_when_53 rfl ?_
      obtain ⟨e5, e6, h⟩ := h
      refine v_iald C (ar_of (o := 13) rfl ar_9_24) dX9_when_54 e5 e6 ?_
      obtain ⟨e7, e8, e9, e10⟩ := h
      refine v_icmp_gt (tgt := 60) C dX9_when_55 (by decide) e7 e8 (fun e11 => ?_) (fun e11 => ?_)
      · have h := e9 e11
        refine v_aload_n C 0 dX9_when_60 rfl ?_
        refine v_cVN C kX9 rfl (s_X9_pass G l0 h) mv_X9_pass wd_1090 ⟨by decide, by decide⟩ rfl rfl (Nat.le_of_ble_eq_true rfl) dX9_when_61 (fun T3 h => ?_)
        refine v_iinc C 3 dX9_when_64 rfl (by decide) ?_
        refine v_goto (tgt := 34) C dX9_when_67 (by decide) ?_
        exact v_sub [1, 2, 3, 0] rfl (ih _ _ h)
      · have h := e10 e11
        refine v_iload_n C 3 dX9_when_58 rfl ?_
        exact v_iret C E dX9_when_59 h
set_option maxRecDepth 100000 in
theorem s_X9_when (G : GT) (l0 : Launch) {v1 : Int} {v2 : Int} {T : TH} {Q : Int → TH → Prop} (h : wp_X9_when v1 v2 T Q) : MT G l0 yX9_when cX9_when 4 (some .int) 4 92 [.ref (gad G 13), .int (zI v1), .int (zI v2)] T (QI G Q) := by
  refine mt_of G l0 (by decide) (Nat.le_of_ble_eq_true rfl) (fun X C E => ?_)
  show V G X T 0 [(0, .ref (gad G 13)), (1, .int (zI v1)), (2, .int (zI v2))] []
  unfold wp_X9_when at h
  refine v_aload_n C 0 dX9_when_0 rfl ?_
  refine v_iload_n C 1 dX9_when_1 rfl ?_
  refine v_cVZ C kX9 rfl (s_X9_isOne G l0 h) mv_X9_isOne wd_1033 ⟨by decide, by decide⟩ rfl rfl (Nat.le_of_ble_eq_true rfl) dX9_when_2 (fun p2 T1 h => ?_)
  obtain ⟨e1, e2⟩ := h
  refine v_ifz_eq (tgt := 16) C dX9_when_5 (by decide) (fun e3 => ?_) (fun e3 => ?_)
  · have h := e1 e3
    refine v_ldc (n := -1000000001) C dX9_when_16 wd_1024 (by decide) ?_
    exact v_iret C E dX9_when_18 h
  · have h := e2 e3
    refine v_aload_n C 0 dX9_when_8 rfl ?_
    refine v_iload_n C 2 dX9_when_9 rfl ?_
    refine v_cVZ C kX9 rfl (s_X9_isBridge G l0 h) mv_X9_isBridge wd_1065 ⟨by decide, by decide⟩ rfl rfl (Nat.le_of_ble_eq_true rfl) dX9_when_10 (fun p4 T3 h => ?_)
    obtain ⟨e4, e5⟩ := h
    refine v_ifz_ne (tgt := 19) C dX9_when_13 (by decide) (fun e6 => ?_) (fun e6 => ?_)
    · have h := e4 e6
      refine v_aload_n C 0 dX9_when_19 rfl ?_
      refine v_getA C kX9 26 rfl rfl wd_842 rfl dX9_when_20 ?_
      refine v_iconst C dX9_when_23 ?_
      refine v_aload_n C 0 dX9_when_24 rfl ?_
      refine v_getA C kX9 27 rfl rfl wd_843 rfl dX9_when_25 ?_
      refine v_iconst C dX9_when_28 ?_
      refine v_cSN C (s_X9_copy G l0 (ar_of (o := 13) rfl ar_9_26) (ar_of (o := 13) rfl ar_9_27) h) mv_X9_copy wd_1087 ⟨by decide, by decide⟩ rfl rfl (Nat.le_of_ble_eq_true rfl) dX9_when_29 (fun T5 h => ?_)
      refine v_iconst C dX9_when_32 ?_
      refine v_istore_n C dX9_when_33 rfl (by decide) ?_
      obtain ⟨n9, h⟩ := h
      exact v_sub [1, 2, 3, 0] rfl (t_X9_when_34 C E n9 _ _ h)
    · have h := e5 e6
      refine v_ldc (n := -1000000001) C dX9_when_16 wd_1024 (by decide) ?_
      exact v_iret C E dX9_when_18 h
def b_X9_least_229 (v1 : Int) (v2 : Int) (v3 : Int) (Q : Int → TH → Prop) (K118 : Int → Int → Int → TH → Prop) (K126 : Int → Int → Int → Int → TH → Prop) (v4 : Int) (v5 : Int) (v6 : Int) (v7 : Int) (T : TH) : Prop :=
  K126 v4 v5 v6 (v7 + 1) T
def h_X9_least_187 (v1 : Int) (v2 : Int) (v3 : Int) (Q : Int → TH → Prop) (K118 : Int → Int → Int → TH → Prop) (K126 : Int → Int → Int → Int → TH → Prop) : Nat → Int → Int → Int → Int → Bool → Int → TH → Prop
  | 0, _, _, _, _, _, _, _ => False
  | n + 1, v4, v5, v6, v7, z8, v9, T => zR v9 ∧ (v9 ≤ 0 → (b_X9_least_229 v1 v2 v3 Q K118 K126 v4 v5 v6 v7 T)) ∧ (¬ (v9 ≤ 0) → ((z8 = false → (b_X9_least_229 v1 v2 v3 Q K118 K126 v4 v5 v6 v7 T)) ∧ (z8 = true → (zR v4 ∧ (v4 ≤ 0 → (b_X9_least_229 v1 v2 v3 Q K118 K126 v4 v5 v6 v7 T)) ∧ (¬ (v4 ≤ 0) → (0 ≤ v7 ∧ v7 < 8 ∧ 0 ≤ v7 ∧ v7 < 8 ∧ ∀ T1 : TH, T1 = up T 13 33 v7 ((T 13 33 v7) + 1) → ∀ w2 : Int, w2 = (v4 - v6) → (h_X9_least_187 v1 v2 v3 Q K118 K126 n) w2 (v5 + 1) v6 v7 z8 (v9 + (-1)) T1))))))
def b_X9_least_173 (v1 : Int) (v2 : Int) (v3 : Int) (Q : Int → TH → Prop) (K118 : Int → Int → Int → TH → Prop) (K126 : Int → Int → Int → Int → TH → Prop) (v4 : Int) (v5 : Int) (v6 : Int) (v7 : Int) (y0 : Bool) (T : TH) : Prop :=
  wp_X9_headsOf 13 26 58 v7 T (fun r2 T1 => (∃ m9 : Nat, h_X9_least_187 v1 v2 v3 Q K118 K126 m9 v4 v5 v6 v7 y0 r2 T1))
def b_X9_least_172 (v1 : Int) (v2 : Int) (v3 : Int) (Q : Int → TH → Prop) (K118 : Int → Int → Int → TH → Prop) (K126 : Int → Int → Int → Int → TH → Prop) (v4 : Int) (v5 : Int) (v6 : Int) (v7 : Int) (T : TH) : Prop :=
  b_X9_least_173 v1 v2 v3 Q K118 K126 v4 v5 v6 v7 false T
def h_X9_least_126 (v1 : Int) (v2 : Int) (v3 : Int) (Q : Int → TH → Prop) (K118 : Int → Int → Int → TH → Prop) : Nat → Int → Int → Int → Int → TH → Prop
  | 0, _, _, _, _, _ => False
  | n + 1, v4, v5, v6, v7, T => zR v7 ∧ zR (T 13 18 0) ∧ ((T 13 18 0) ≤ v7 → (K118 v4 v5 (v6 + (-1)) T)) ∧ (¬ ((T 13 18 0) ≤ v7) → (wp_X9_gramsOf v7 T (fun r2 T1 => zR r2 ∧ zR v6 ∧ (¬ r2 = v6 → (b_X9_least_172 v1 v2 v3 Q K118 (h_X9_least_126 v1 v2 v3 Q K118 n) v4 v5 v6 v7 T1)) ∧ (r2 = v6 → (wp_X9_isLie v7 T1 (fun p4 T3 => (p4 = true → (b_X9_least_172 v1 v2 v3 Q K118 (h_X9_least_126 v1 v2 v3 Q K118 n) v4 v5 v6 v7 T3)) ∧ (p4 = false → (wp_X9_personOf v7 T3 (fun r6 T5 => wp_X9_has v1 r6 T5 (fun p8 T7 => (p8 = false → (b_X9_least_172 v1 v2 v3 Q K118 (h_X9_least_126 v1 v2 v3 Q K118 n) v4 v5 v6 v7 T7)) ∧ (p8 = true → (b_X9_least_173 v1 v2 v3 Q K118 (h_X9_least_126 v1 v2 v3 Q K118 n) v4 v5 v6 v7 true T7))))))))))))
def h_X9_least_118 (v1 : Int) (v2 : Int) (v3 : Int) (Q : Int → TH → Prop) : Nat → Int → Int → Int → TH → Prop
  | 0, _, _, _, _ => False
  | n + 1, v4, v5, v6, T => zR v6 ∧ (v6 ≤ 0 → (zR v4 ∧ (v4 ≤ 0 → (zR v3 ∧ (¬ v3 = (-1) → (0 ≤ v3 ∧ v3 < 8 ∧ Q (T 13 33 v3) T)) ∧ (v3 = (-1) → (Q v5 T)))) ∧ (¬ (v4 ≤ 0) → (Q (-1) T)))) ∧ (¬ (v6 ≤ 0) → ((∃ m9 : Nat, h_X9_least_126 v1 v2 v3 Q (h_X9_least_118 v1 v2 v3 Q n) m9 v4 v5 v6 0 T)))
def h_X9_least_93 (v1 : Int) (v2 : Int) (v3 : Int) (Q : Int → TH → Prop) : Nat → Int → Bool → Int → TH → Prop
  | 0, _, _, _, _ => False
  | n + 1, v4, z5, v6, T => zR v6 ∧ (8 ≤ v6 → ((∃ m9 : Nat, h_X9_least_118 v1 v2 v3 Q m9 v4 (zi z5) 9 T))) ∧ (¬ (8 ≤ v6) → (0 ≤ v6 ∧ v6 < 8 ∧ ∀ T1 : TH, T1 = up T 13 33 v6 0 → (h_X9_least_93 v1 v2 v3 Q n) v4 z5 (v6 + 1) T1))
def b_X9_least_78 (v1 : Int) (v2 : Int) (v3 : Int) (Q : Int → TH → Prop) (K44 : Int → Int → TH → Prop) (v5 : Int) (s0 : Int) (s1 : Int) (T : TH) : Prop :=
  ∀ w1 : Int, w1 = (s0 + s1) → K44 w1 (v5 + 1) T
def h_X9_least_44 (v1 : Int) (v2 : Int) (v3 : Int) (Q : Int → TH → Prop) : Nat → Int → Int → TH → Prop
  | 0, _, _, _ => False
  | n + 1, v4, v5, T => zR v5 ∧ zR (T 13 17 0) ∧ ((T 13 17 0) ≤ v5 → ((∃ m9 : Nat, h_X9_least_93 v1 v2 v3 Q m9 v4 false 0 T))) ∧ (¬ ((T 13 17 0) ≤ v5) → (wp_X9_has v1 v5 T (fun p2 T1 => (p2 = false → (b_X9_least_78 v1 v2 v3 Q (h_X9_least_44 v1 v2 v3 Q n) v5 v4 0 T1)) ∧ (p2 = true → (wp_X9_weightOf 13 26 58 v5 T1 (fun r4 T3 => b_X9_least_78 v1 v2 v3 Q (h_X9_least_44 v1 v2 v3 Q n) v5 v4 r4 T3))))))
def b_X9_least_32 (v1 : Int) (v2 : Int) (v3 : Int) (Q : Int → TH → Prop) (T : TH) : Prop :=
  0 ≤ v2 ∧ v2 < 4 ∧ ∀ w1 : Int, w1 = (-(T 13 24 v2)) → (∃ m9 : Nat, h_X9_least_44 v1 v2 v3 Q m9 w1 0 T)
def wp_X9_least (v1 : Int) (v2 : Int) (v3 : Int) (T : TH) (Q : Int → TH → Prop) : Prop :=
  wp_X9_isSet v1 T (fun p2 T1 => (p2 = false → (Q (-1000000001) T1)) ∧ (p2 = true → (wp_X9_isBridge v2 T1 (fun p4 T3 => (p4 = false → (Q (-1000000001) T3)) ∧ (p4 = true → (zR v3 ∧ (v3 = (-1) → (b_X9_least_32 v1 v2 v3 Q T3)) ∧ (¬ (v3 = (-1)) → (wp_X9_isFact v3 T3 (fun p6 T5 => (p6 = true → (b_X9_least_32 v1 v2 v3 Q T5)) ∧ (p6 = false → (Q (-1000000001) T5)))))))))))
set_option maxRecDepth 100000 in
theorem t_X9_least_229 {G : GT} {l0 : Launch} {X : CX} (C : CT G l0 X cX9_least 10 RX9 (rM 3 71)) {Q : Int → TH → Prop} (E : EN G X (some .int) (QI G Q)) {v1 : Int} {v2 : Int} {v3 : Int} {K118 : Int → Int → Int → TH → Prop} {K126 : Int → Int → Int → Int → TH → Prop} (k118 : ∀ (v4 : Int) (v5 : Int) (v6 : Int) (T : TH), K118 v4 v5 v6 T → V G X T 118 [(0, .ref (gad G 13)), (1, .int (zI v1)), (2, .int (zI v2)), (3, .int (zI v3)), (4, .int (zI v4)), (5, .int (zI v5)), (6, .int (zI v6))] []) (k126 : ∀ (v4 : Int) (v5 : Int) (v6 : Int) (v7 : Int) (T : TH), K126 v4 v5 v6 v7 T → V G X T 126 [(0, .ref (gad G 13)), (1, .int (zI v1)), (2, .int (zI v2)), (3, .int (zI v3)), (4, .int (zI v4)), (5, .int (zI v5)), (6, .int (zI v6)), (7, .int (zI v7))] []) {v4 : Int} {v5 : Int} {v6 : Int} {v7 : Int} {T : TH} (h : b_X9_least_229 v1 v2 v3 Q K118 K126 v4 v5 v6 v7 T) : V G X T 229 [(0, .ref (gad G 13)), (1, .int (zI v1)), (2, .int (zI v2)), (3, .int (zI v3)), (4, .int (zI v4)), (5, .int (zI v5)), (6, .int (zI v6)), (7, .int (zI v7))] [] := by
  unfold b_X9_least_229 at h
  refine v_iinc C 7 dX9_least_229 rfl (by decide) ?_
  refine v_goto (tgt := 126) C dX9_least_232 (by decide) ?_
  exact v_sub [1, 2, 3, 4, 5, 6, 7, 0] rfl (k126 _ _ _ _ _ h)
set_option maxRecDepth 100000 in
theorem t_X9_least_187 {G : GT} {l0 : Launch} {X : CX} (C : CT G l0 X cX9_least 10 RX9 (rM 3 71)) {Q : Int → TH → Prop} (E : EN G X (some .int) (QI G Q)) {v1 : Int} {v2 : Int} {v3 : Int} {K118 : Int → Int → Int → TH → Prop} {K126 : Int → Int → Int → Int → TH → Prop} (k118 : ∀ (v4 : Int) (v5 : Int) (v6 : Int) (T : TH), K118 v4 v5 v6 T → V G X T 118 [(0, .ref (gad G 13)), (1, .int (zI v1)), (2, .int (zI v2)), (3, .int (zI v3)), (4, .int (zI v4)), (5, .int (zI v5)), (6, .int (zI v6))] []) (k126 : ∀ (v4 : Int) (v5 : Int) (v6 : Int) (v7 : Int) (T : TH), K126 v4 v5 v6 v7 T → V G X T 126 [(0, .ref (gad G 13)), (1, .int (zI v1)), (2, .int (zI v2)), (3, .int (zI v3)), (4, .int (zI v4)), (5, .int (zI v5)), (6, .int (zI v6)), (7, .int (zI v7))] []) : ∀ (n : Nat) (v4 : Int) (v5 : Int) (v6 : Int) (v7 : Int) (z8 : Bool) (v9 : Int) (T : TH), h_X9_least_187 v1 v2 v3 Q K118 K126 n v4 v5 v6 v7 z8 v9 T → V G X T 187 [(0, .ref (gad G 13)), (1, .int (zI v1)), (2, .int (zI v2)), (3, .int (zI v3)), (4, .int (zI v4)), (5, .int (zI v5)), (6, .int (zI v6)), (7, .int (zI v7)), (8, .int (zI (zi z8))), (9, .int (zI v9))] [] := by
  intro n
  induction n with
  | zero =>
    intro v4 v5 v6 v7 z8 v9 T h
    exact h.elim
  | succ n ih =>
    intro v4 v5 v6 v7 z8 v9 T h
    rw [h_X9_least_187] at h
    refine v_iload C 9 dX9_least_187 rfl ?_
    obtain ⟨e1, e2, e3⟩ := h
    refine v_if_le (tgt := 229) C dX9_least_189 (by decide) e1 (fun e4 => ?_) (fun e4 => ?_)
    · have h := e2 e4
      exact v_sub [0, 1, 2, 3, 4, 5, 6, 7] rfl (t_X9_least_229 C E k118 k126 h)
    · have h := e3 e4
      refine v_iload C 8 dX9_least_192 rfl ?_
      obtain ⟨e5, e6⟩ := h
      refine v_ifz_eq (tgt := 229) C dX9_least_194 (by decide) (fun e7 => ?_) (fun e7 => ?_)
      · have h := e5 e7
        exact v_sub [0, 1, 2, 3, 4, 5, 6, 7] rfl (t_X9_least_229 C E k118 k126 h)
      · have h := e6 e7
        refine v_iload C 4 dX9_least_197 rfl ?_
        obtain ⟨e8, e9, e10⟩ := h
        refine v_if_le (tgt := 229) C dX9_least_199 (by decide) e8 (fun e11 => ?_) (fun e11 => ?_)
        · have h := e9 e11
          exact v_sub [0, 1, 2, 3, 4, 5, 6, 7] rfl (t_X9_least_229 C E k118 k126 h)
        · have h := e10 e11
          refine v_aload_n C 0 dX9_least_202 rfl ?_
          refine v_getA C kX9 33 rfl rfl wd_849 rfl dX9_least_203 ?_
          refine v_iload C 7 dX9_least_206 rfl ?_
          refine v_dup2 C dX9_least_208 rfl rfl ?_
          obtain ⟨e12, e13, h⟩ := h
          refine v_iald C (ar_of (o := 13) rfl ar_9_33) dX9_least_209 e12 e13 ?_
          refine v_iconst C dX9_least_210 ?_
          refine v_iadd C dX9_least_211 ?_
          obtain ⟨e14, e15, h⟩ := h
          refine v_iast C (ar_of (o := 13) rfl ar_9_33) dX9_least_212 e14 e15 ?_
          have h := h _ rfl
          refine v_iinc C 5 dX9_least_213 rfl (by decide) ?_
          refine v_iload C 5 dX9_least_216 rfl ?_
          refine v_iload C 6 dX9_least_218 rfl ?_
          refine v_isub C dX9_least_220 ?_
          refine v_istore C dX9_least_221 (by decide) ?_
          have h := h _ rfl
          refine v_iinc C 9 dX9_least_223 rfl (by decide) ?_
          refine v_goto (tgt := 187) C dX9_least_226 (by decide) ?_
          exact v_sub [3, 4, 5, 6, 1, 2, 7, 8, 9, 0] rfl (ih _ _ _ _ _ _ _ h)
set_option maxRecDepth 100000 in
theorem t_X9_least_173 {G : GT} {l0 : Launch} {X : CX} (C : CT G l0 X cX9_least 10 RX9 (rM 3 71)) {Q : Int → TH → Prop} (E : EN G X (some .int) (QI G Q)) {v1 : Int} {v2 : Int} {v3 : Int} {K118 : Int → Int → Int → TH → Prop} {K126 : Int → Int → Int → Int → TH → Prop} (k118 : ∀ (v4 : Int) (v5 : Int) (v6 : Int) (T : TH), K118 v4 v5 v6 T → V G X T 118 [(0, .ref (gad G 13)), (1, .int (zI v1)), (2, .int (zI v2)), (3, .int (zI v3)), (4, .int (zI v4)), (5, .int (zI v5)), (6, .int (zI v6))] []) (k126 : ∀ (v4 : Int) (v5 : Int) (v6 : Int) (v7 : Int) (T : TH), K126 v4 v5 v6 v7 T → V G X T 126 [(0, .ref (gad G 13)), (1, .int (zI v1)), (2, .int (zI v2)), (3, .int (zI v3)), (4, .int (zI v4)), (5, .int (zI v5)), (6, .int (zI v6)), (7, .int (zI v7))] []) {v4 : Int} {v5 : Int} {v6 : Int} {v7 : Int} {y0 : Bool} {T : TH} (h : b_X9_least_173 v1 v2 v3 Q K118 K126 v4 v5 v6 v7 y0 T) : V G X T 173 [(0, .ref (gad G 13)), (1, .int (zI v1)), (2, .int (zI v2)), (3, .int (zI v3)), (4, .int (zI v4)), (5, .int (zI v5)), (6, .int (zI v6)), (7, .int (zI v7))] [.int (zI (zi y0))] := by
  unfold b_X9_least_173 at h
  refine v_istore C dX9_least_173 (by decide) ?_
  refine v_aload_n C 1 dX9_least_175 rfl ?_
  refine v_aload_n C 1 dX9_least_176 rfl ?_
  refine v_getA C kX9 26 rfl rfl wd_842 rfl dX9_least_177 ?_
  refine v_iload C 8 dX9_least_180 rfl ?_
  refine v_cVI C kX9 rfl (s_X9_headsOf G l0 (ar_of (o := 13) rfl ar_9_26) h) mv_X9_headsOf wd_1005 ⟨by decide, by decide⟩ rfl rfl (Nat.le_of_ble_eq_true rfl) dX9_least_182 (fun r2 T1 h => ?_)
  refine v_istore C dX9_least_185 (by decide) ?_
  obtain ⟨n9, h⟩ := h
  exact v_sub [2, 3, 4, 5, 6, 7, 8, 9, 1, 0] rfl (t_X9_least_187 C E k118 k126 n9 _ _ _ _ _ _ _ h)
set_option maxRecDepth 100000 in
theorem t_X9_least_172 {G : GT} {l0 : Launch} {X : CX} (C : CT G l0 X cX9_least 10 RX9 (rM 3 71)) {Q : Int → TH → Prop} (E : EN G X (some .int) (QI G Q)) {v1 : Int} {v2 : Int} {v3 : Int} {K118 : Int → Int → Int → TH → Prop} {K126 : Int → Int → Int → Int → TH → Prop} (k118 : ∀ (v4 : Int) (v5 : Int) (v6 : Int) (T : TH), K118 v4 v5 v6 T → V G X T 118 [(0, .ref (gad G 13)), (1, .int (zI v1)), (2, .int (zI v2)), (3, .int (zI v3)), (4, .int (zI v4)), (5, .int (zI v5)), (6, .int (zI v6))] []) (k126 : ∀ (v4 : Int) (v5 : Int) (v6 : Int) (v7 : Int) (T : TH), K126 v4 v5 v6 v7 T → V G X T 126 [(0, .ref (gad G 13)), (1, .int (zI v1)), (2, .int (zI v2)), (3, .int (zI v3)), (4, .int (zI v4)), (5, .int (zI v5)), (6, .int (zI v6)), (7, .int (zI v7))] []) {v4 : Int} {v5 : Int} {v6 : Int} {v7 : Int} {T : TH} (h : b_X9_least_172 v1 v2 v3 Q K118 K126 v4 v5 v6 v7 T) : V G X T 172 [(0, .ref (gad G 13)), (1, .int (zI v1)), (2, .int (zI v2)), (3, .int (zI v3)), (4, .int (zI v4)), (5, .int (zI v5)), (6, .int (zI v6)), (7, .int (zI v7))] [] := by
  unfold b_X9_least_172 at h
  refine v_iconst C dX9_least_172 ?_
  exact v_sub [0, 1, 2, 3, 4, 5, 6, 7] rfl (t_X9_least_173 C E k118 k126 h)
set_option maxRecDepth 100000 in
theorem t_X9_least_126 {G : GT} {l0 : Launch} {X : CX} (C : CT G l0 X cX9_least 10 RX9 (rM 3 71)) {Q : Int → TH → Prop} (E : EN G X (some .int) (QI G Q)) {v1 : Int} {v2 : Int} {v3 : Int} {K118 : Int → Int → Int → TH → Prop} (k118 : ∀ (v4 : Int) (v5 : Int) (v6 : Int) (T : TH), K118 v4 v5 v6 T → V G X T 118 [(0, .ref (gad G 13)), (1, .int (zI v1)), (2, .int (zI v2)), (3, .int (zI v3)), (4, .int (zI v4)), (5, .int (zI v5)), (6, .int (zI v6))] []) : ∀ (n : Nat) (v4 : Int) (v5 : Int) (v6 : Int) (v7 : Int) (T : TH), h_X9_least_126 v1 v2 v3 Q K118 n v4 v5 v6 v7 T → V G X T 126 [(0, .ref (gad G 13)), (1, .int (zI v1)), (2, .int (zI v2)), (3, .int (zI v3)), (4, .int (zI v4)), (5, .int (zI v5)), (6, .int (zI v6)), (7, .int (zI v7))] [] := by
  intro n
  induction n with
  | zero =>
    intro v4 v5 v6 v7 T h
    exact h.elim
  | succ n ih =>
    intro v4 v5 v6 v7 T h
    rw [h_X9_least_126] at h
    refine v_iload C 7 dX9_least_126 rfl ?_
    refine v_aload_n C 0 dX9_least_128 rfl ?_
    refine v_getI C kX9 18 rfl rfl wd_834 rfl dX9_least_129 ?_
    obtain ⟨e1, e2, e3, e4⟩ := h
    refine v_icmp_ge (tgt := 235) C dX9_least_132 (by decide) e1 e2 (fun e5 => ?_) (fun e5 => ?_)
    · have h := e3 e5
      refine v_iinc C 6 dX9_least_235 rfl (by decide) ?_
      refine v_goto (tgt := 118) C dX9_least_238 (by decide) ?_
      exact v_sub [1, 2, 3, 4, 5, 6, 0] rfl (k118 _ _ _ _ h)
    · have h := e4 e5
      refine v_aload_n C 0 dX9_least_135 rfl ?_
      refine v_iload C 7 dX9_least_136 rfl ?_
      refine v_cVI C kX9 rfl (s_X9_gramsOf G l0 h) mv_X9_gramsOf wd_1053 ⟨by decide, by decide⟩ rfl rfl (Nat.le_of_ble_eq_true rfl) dX9_least_138 (fun r2 T1 h => ?_)
      refine v_iload C 6 dX9_least_141 rfl ?_
      obtain ⟨e6, e7, e8, e9⟩ := h
      refine v_icmp_ne (tgt := 172) C dX9_least_143 (by decide) e6 e7 (fun e10 => ?_) (fun e10 => ?_)
      · have h := e8 e10
        exact v_sub [0, 1, 2, 3, 4, 5, 6, 7] rfl (t_X9_least_172 C E k118 ih h)
      · have h := e9 e10
        refine v_aload_n C 0 dX9_least_146 rfl ?_
        refine v_iload C 7 dX9_least_147 rfl ?_
        refine v_cVZ C kX9 rfl (s_X9_isLie G l0 h) mv_X9_isLie wd_1057 ⟨by decide, by decide⟩ rfl rfl (Nat.le_of_ble_eq_true rfl) dX9_least_149 (fun p4 T3 h => ?_)
        obtain ⟨e11, e12⟩ := h
        refine v_ifz_ne (tgt := 172) C dX9_least_152 (by decide) (fun e13 => ?_) (fun e13 => ?_)
        · have h := e11 e13
          exact v_sub [0, 1, 2, 3, 4, 5, 6, 7] rfl (t_X9_least_172 C E k118 ih h)
        · have h := e12 e13
          refine v_iload_n C 1 dX9_least_155 rfl ?_
          refine v_aload_n C 0 dX9_least_156 rfl ?_
          refine v_iload C 7 dX9_least_157 rfl ?_
          refine v_cVI C kX9 rfl (s_X9_personOf G l0 h) mv_X9_personOf wd_1009 ⟨by decide, by decide⟩ rfl rfl (Nat.le_of_ble_eq_true rfl) dX9_least_159 (fun r6 T5 h => ?_)
          refine v_cSZ C (s_X9_has G l0 h) mv_X9_has wd_986 ⟨by decide, by decide⟩ rfl rfl (Nat.le_of_ble_eq_true rfl) dX9_least_162 (fun p8 T7 h => ?_)
          obtain ⟨e14, e15⟩ := h
          refine v_ifz_eq (tgt := 172) C dX9_least_165 (by decide) (fun e16 => ?_) (fun e16 => ?_)
          · have h := e14 e16
            exact v_sub [0, 1, 2, 3, 4, 5, 6, 7] rfl (t_X9_least_172 C E k118 ih h)
          · have h := e15 e16
            refine v_iconst C dX9_least_168 ?_
            refine v_goto (tgt := 173) C dX9_least_169 (by decide) ?_
            exact v_sub [0, 1, 2, 3, 4, 5, 6, 7] rfl (t_X9_least_173 C E k118 ih h)
set_option maxRecDepth 100000 in
theorem t_X9_least_118 {G : GT} {l0 : Launch} {X : CX} (C : CT G l0 X cX9_least 10 RX9 (rM 3 71)) {Q : Int → TH → Prop} (E : EN G X (some .int) (QI G Q)) {v1 : Int} {v2 : Int} {v3 : Int} : ∀ (n : Nat) (v4 : Int) (v5 : Int) (v6 : Int) (T : TH), h_X9_least_118 v1 v2 v3 Q n v4 v5 v6 T → V G X T 118 [(0, .ref (gad G 13)), (1, .int (zI v1)), (2, .int (zI v2)), (3, .int (zI v3)), (4, .int (zI v4)), (5, .int (zI v5)), (6, .int (zI v6))] [] := by
  intro n
  induction n with
  | zero =>
    intro v4 v5 v6 T h
    exact h.elim
  | succ n ih =>
    intro v4 v5 v6 T h
    rw [h_X9_least_118] at h
    refine v_iload C 6 dX9_least_118 rfl ?_
    obtain ⟨e1, e2, e3⟩ := h
    refine v_if_le (tgt := 241) C dX9_least_120 (by decide) e1 (fun e4 => ?_) (fun e4 => ?_)
    · have h := e2 e4
      refine v_iload C 4 dX9_least_241 rfl ?_
      obtain ⟨e5, e6, e7⟩ := h
      refine v_if_le (tgt := 250) C dX9_least_243 (by decide) e5 (fun e8 => ?_) (fun e8 => ?_)
      · have h := e6 e8
        refine v_iload_n C 3 dX9_least_250 rfl ?_
        refine v_iconst C dX9_least_251 ?_
        obtain ⟨e9, e10, e11⟩ := h
        refine v_icmp_ne (tgt := 260) C dX9_least_252 (by decide) e9 ⟨by decide, by decide⟩ (fun e12 => ?_) (fun e12 => ?_)
        · have h := e10 e12
          refine v_aload_n C 0 dX9_least_260 rfl ?_
          refine v_getA C kX9 33 rfl rfl wd_849 rfl dX9_least_261 ?_
          refine v_iload_n C 3 dX9_least_264 rfl ?_
          obtain ⟨e13, e14, h⟩ := h
          refine v_iald C (ar_of (o := 13) rfl ar_9_33) dX9_least_265 e13 e14 ?_
          exact v_iret C E dX9_least_266 h
        · have h := e11 e12
          refine v_iload C 5 dX9_least_255 rfl ?_
          refine v_goto (tgt := 266) C dX9_least_257 (by decide) ?_
          exact v_iret C E dX9_least_266 h
      · have h := e7 e8
        refine v_iconst C dX9_least_246 ?_
        refine v_goto (tgt := 266) C dX9_least_247 (by decide) ?_
        exact v_iret C E dX9_least_266 h
    · have h := e3 e4
      refine v_iconst C dX9_least_123 ?_
      refine v_istore C dX9_least_124 (by decide) ?_
      obtain ⟨n9, h⟩ := h
      exact v_sub [1, 2, 3, 4, 5, 6, 7, 0] rfl (t_X9_least_126 C E ih n9 _ _ _ _ _ h)
set_option maxRecDepth 100000 in
theorem t_X9_least_93 {G : GT} {l0 : Launch} {X : CX} (C : CT G l0 X cX9_least 10 RX9 (rM 3 71)) {Q : Int → TH → Prop} (E : EN G X (some .int) (QI G Q)) {v1 : Int} {v2 : Int} {v3 : Int} : ∀ (n : Nat) (v4 : Int) (z5 : Bool) (v6 : Int) (T : TH), h_X9_least_93 v1 v2 v3 Q n v4 z5 v6 T → V G X T 93 [(0, .ref (gad G 13)), (1, .int (zI v1)), (2, .int (zI v2)), (3, .int (zI v3)), (4, .int (zI v4)), (5, .int (zI (zi z5))), (6, .int (zI v6))] [] := by
  intro n
  induction n with
  | zero =>
    intro v4 z5 v6 T h
    exact h.elim
  | succ n ih =>
    intro v4 z5 v6 T h
    rw [h_X9_least_93] at h
    refine v_iload C 6 dX9_least_93 rfl ?_
    refine v_bipush C dX9_least_95 (by decide) ?_
    obtain ⟨e1, e2, e3⟩ := h
    refine v_icmp_ge (tgt := 114) C dX9_least_97 (by decide) e1 ⟨by decide, by decide⟩ (fun e4 => ?_) (fun e4 => ?_)
    · have h := e2 e4
      refine v_bipush C dX9_least_114 (by decide) ?_
      refine v_istore C dX9_least_116 (by decide) ?_
      obtain ⟨n9, h⟩ := h
      exact v_sub [1, 2, 3, 4, 5, 6, 0] rfl (t_X9_least_118 C E n9 _ _ _ _ h)
    · have h := e3 e4
      refine v_aload_n C 0 dX9_least_100 rfl ?_
      refine v_getA C kX9 33 rfl rfl wd_849 rfl dX9_least_101 ?_
      refine v_iload C 6 dX9_least_104 rfl ?_
      refine v_iconst C dX9_least_106 ?_
      obtain ⟨e5, e6, h⟩ := h
      refine v_iast C (ar_of (o := 13) rfl ar_9_33) dX9_least_107 e5 e6 ?_
      have h := h _ rfl
      refine v_iinc C 6 dX9_least_108 rfl (by decide) ?_
      refine v_goto (tgt := 93) C dX9_least_111 (by decide) ?_
      exact v_sub [1, 2, 3, 4, 5, 6, 0] rfl (ih _ _ _ _ h)
set_option maxRecDepth 100000 in
theorem t_X9_least_78 {G : GT} {l0 : Launch} {X : CX} (C : CT G l0 X cX9_least 10 RX9 (rM 3 71)) {Q : Int → TH → Prop} (E : EN G X (some .int) (QI G Q)) {v1 : Int} {v2 : Int} {v3 : Int} {K44 : Int → Int → TH → Prop} (k44 : ∀ (v4 : Int) (v5 : Int) (T : TH), K44 v4 v5 T → V G X T 44 [(0, .ref (gad G 13)), (1, .int (zI v1)), (2, .int (zI v2)), (3, .int (zI v3)), (4, .int (zI v4)), (5, .int (zI v5))] []) {v5 : Int} {s0 : Int} {s1 : Int} {T : TH} (h : b_X9_least_78 v1 v2 v3 Q K44 v5 s0 s1 T) : V G X T 78 [(0, .ref (gad G 13)), (1, .int (zI v1)), (2, .int (zI v2)), (3, .int (zI v3)), (5, .int (zI v5))] [.int (zI s1), .int (zI s0)] := by
  unfold b_X9_least_78 at h
  refine v_iadd C dX9_least_78 ?_
  refine v_istore C dX9_least_79 (by decide) ?_
  have h := h _ rfl
  refine v_iinc C 5 dX9_least_81 rfl (by decide) ?_
  refine v_goto (tgt := 44) C dX9_least_84 (by decide) ?_
  exact v_sub [2, 3, 4, 5, 1, 0] rfl (k44 _ _ _ h)
set_option maxRecDepth 100000 in
theorem t_X9_least_44 {G : GT} {l0 : Launch} {X : CX} (C : CT G l0 X cX9_least 10 RX9 (rM 3 71)) {Q : Int → TH → Prop} (E : EN G X (some .int) (QI G Q)) {v1 : Int} {v2 : Int} {v3 : Int} : ∀ (n : Nat) (v4 : Int) (v5 : Int) (T : TH), h_X9_least_44 v1 v2 v3 Q n v4 v5 T → V G X T 44 [(0, .ref (gad G 13)), (1, .int (zI v1)), (2, .int (zI v2)), (3, .int (zI v3)), (4, .int (zI v4)), (5, .int (zI v5))] [] := by
  intro n
  induction n with
  | zero =>
    intro v4 v5 T h
    exact h.elim
  | succ n ih =>
    intro v4 v5 T h
    rw [h_X9_least_44] at h
    refine v_iload C 5 dX9_least_44 rfl ?_
    refine v_aload_n C 0 dX9_least_46 rfl ?_
    refine v_getI C kX9 17 rfl rfl wd_833 rfl dX9_least_47 ?_
    obtain ⟨e1, e2, e3, e4⟩ := h
    refine v_icmp_ge (tgt := 87) C dX9_least_50 (by decide) e1 e2 (fun e5 => ?_) (fun e5 => ?_)
    · have h := e3 e5
      refine v_iconst C dX9_least_87 ?_
      refine v_istore C dX9_least_88 (by decide) ?_
      refine v_iconst C dX9_least_90 ?_
      refine v_istore C dX9_least_91 (by decide) ?_
      obtain ⟨n9, h⟩ := h
      exact v_sub [2, 3, 4, 5, 6, 1, 0] rfl (t_X9_least_93 C E n9 _ _ _ _ h)
    · have h := e4 e5
      refine v_iload C 4 dX9_least_53 rfl ?_
      refine v_iload_n C 1 dX9_least_55 rfl ?_
      refine v_iload C 5 dX9_least_56 rfl ?_
      refine v_cSZ C (s_X9_has G l0 h) mv_X9_has wd_986 ⟨by decide, by decide⟩ rfl rfl (Nat.le_of_ble_eq_true rfl) dX9_least_58 (fun p2 T1 h => ?_)
      obtain ⟨e6, e7⟩ := h
      refine v_ifz_eq (tgt := 77) C dX9_least_61 (by decide) (fun e8 => ?_) (fun e8 => ?_)
      · have h := e6 e8
        refine v_iconst C dX9_least_77 ?_
        exact v_sub [0, 1, 2, 3, 5] rfl (t_X9_least_78 C E ih h)
      · have h := e7 e8
        refine v_aload_n C 0 dX9_least_64 rfl ?_
        refine v_aload_n C 0 dX9_least_65 rfl ?_
        refine v_getA C kX9 26 rfl rfl wd_842 rfl dX9_least_66 ?_
        refine v_iload C 5 dX9_least_69 rfl ?_
        refine v_cVI C kX9 rfl (s_X9_weightOf G l0 (ar_of (o := 13) rfl ar_9_26) h) mv_X9_weightOf wd_1049 ⟨by decide, by decide⟩ rfl rfl (Nat.le_of_ble_eq_true rfl) dX9_least_71 (fun r4 T3 h => ?_)
        refine v_goto (tgt := 78) C dX9_least_74 (by decide) ?_
        exact v_sub [0, 1, 2, 3, 5] rfl (t_X9_least_78 C E ih h)
set_option maxRecDepth 100000 in
theorem t_X9_least_32 {G : GT} {l0 : Launch} {X : CX} (C : CT G l0 X cX9_least 10 RX9 (rM 3 71)) {Q : Int → TH → Prop} (E : EN G X (some .int) (QI G Q)) {v1 : Int} {v2 : Int} {v3 : Int} {T : TH} (h : b_X9_least_32 v1 v2 v3 Q T) : V G X T 32 [(0, .ref (gad G 13)), (1, .int (zI v1)), (2, .int (zI v2)), (3, .int (zI v3))] [] := by
  unfold b_X9_least_32 at h
  refine v_aload_n C 0 dX9_least_32 rfl ?_
  refine v_getA C kX9 24 rfl rfl wd_840 rfl dX9_least_33 ?_
  refine v_iload_n C 2 dX9_least_36 rfl ?_
  obtain ⟨e1, e2, h⟩ := h
  refine v_iald C (ar_of (o := 13) rfl ar_9_24) dX9_least_37 e1 e2 ?_
  refine v_ineg C dX9_least_38 ?_
  refine v_istore C dX9_least_39 (by decide) ?_
  have h := h _ rfl
  refine v_iconst C dX9_least_41 ?_
  refine v_istore C dX9_least_42 (by decide) ?_
  obtain ⟨n9, h⟩ := h
  exact v_sub [2, 3, 4, 5, 1, 0] rfl (t_X9_least_44 C E n9 _ _ _ h)
set_option maxRecDepth 100000 in
theorem s_X9_least (G : GT) (l0 : Launch) {v1 : Int} {v2 : Int} {v3 : Int} {T : TH} {Q : Int → TH → Prop} (h : wp_X9_least v1 v2 v3 T Q) : MT G l0 yX9_least cX9_least 10 (some .int) 3 71 [.ref (gad G 13), .int (zI v1), .int (zI v2), .int (zI v3)] T (QI G Q) := by
  refine mt_of G l0 (by decide) (Nat.le_of_ble_eq_true rfl) (fun X C E => ?_)
  show V G X T 0 [(0, .ref (gad G 13)), (1, .int (zI v1)), (2, .int (zI v2)), (3, .int (zI v3))] []
  unfold wp_X9_least at h
  refine v_aload_n C 0 dX9_least_0 rfl ?_
  refine v_iload_n C 1 dX9_least_1 rfl ?_
  refine v_cVZ C kX9 rfl (s_X9_isSet G l0 h) mv_X9_isSet wd_1122 ⟨by decide, by decide⟩ rfl rfl (Nat.le_of_ble_eq_true rfl) dX9_least_2 (fun p2 T1 h => ?_)
  obtain ⟨e1, e2⟩ := h
  refine v_ifz_eq (tgt := 29) C dX9_least_5 (by decide) (fun e3 => ?_) (fun e3 => ?_)
  · have h := e1 e3
    refine v_ldc (n := -1000000001) C dX9_least_29 wd_1024 (by decide) ?_
    exact v_iret C E dX9_least_31 h
  · have h := e2 e3
    refine v_aload_n C 0 dX9_least_8 rfl ?_
    refine v_iload_n C 2 dX9_least_9 rfl ?_
    refine v_cVZ C kX9 rfl (s_X9_isBridge G l0 h) mv_X9_isBridge wd_1065 ⟨by decide, by decide⟩ rfl rfl (Nat.le_of_ble_eq_true rfl) dX9_least_10 (fun p4 T3 h => ?_)
    obtain ⟨e4, e5⟩ := h
    refine v_ifz_eq (tgt := 29) C dX9_least_13 (by decide) (fun e6 => ?_) (fun e6 => ?_)
    · have h := e4 e6
      refine v_ldc (n := -1000000001) C dX9_least_29 wd_1024 (by decide) ?_
      exact v_iret C E dX9_least_31 h
    · have h := e5 e6
      refine v_iload_n C 3 dX9_least_16 rfl ?_
      refine v_iconst C dX9_least_17 ?_
      obtain ⟨e7, e8, e9⟩ := h
      refine v_icmp_eq (tgt := 32) C dX9_least_18 (by decide) e7 ⟨by decide, by decide⟩ (fun e10 => ?_) (fun e10 => ?_)
      · have h := e8 e10
        exact v_sub [0, 1, 2, 3] rfl (t_X9_least_32 C E h)
      · have h := e9 e10
        refine v_aload_n C 0 dX9_least_21 rfl ?_
        refine v_iload_n C 3 dX9_least_22 rfl ?_
        refine v_cVZ C kX9 rfl (s_X9_isFact G l0 h) mv_X9_isFact wd_1020 ⟨by decide, by decide⟩ rfl rfl (Nat.le_of_ble_eq_true rfl) dX9_least_23 (fun p6 T5 h => ?_)
        obtain ⟨e11, e12⟩ := h
        refine v_ifz_ne (tgt := 32) C dX9_least_26 (by decide) (fun e13 => ?_) (fun e13 => ?_)
        · have h := e11 e13
          exact v_sub [0, 1, 2, 3] rfl (t_X9_least_32 C E h)
        · have h := e12 e13
          refine v_ldc (n := -1000000001) C dX9_least_29 wd_1024 (by decide) ?_
          exact v_iret C E dX9_least_31 h
def b_X9_togetherOf_31 (v1 : Int) (Q : Int → TH → Prop) (K4 : Int → Int → TH → Prop) (v3 : Int) (s0 : Int) (s1 : Int) (T : TH) : Prop :=
  ∀ w1 : Int, w1 = (s0 + s1) → K4 w1 (v3 + 1) T
def h_X9_togetherOf_4 (v1 : Int) (Q : Int → TH → Prop) : Nat → Int → Int → TH → Prop
  | 0, _, _, _ => False
  | n + 1, v2, v3, T => zR v3 ∧ zR (T 13 17 0) ∧ ((T 13 17 0) ≤ v3 → (Q v2 T)) ∧ (¬ ((T 13 17 0) ≤ v3) → (wp_X9_has v1 v3 T (fun p2 T1 => (p2 = false → (b_X9_togetherOf_31 v1 Q (h_X9_togetherOf_4 v1 Q n) v3 v2 0 T1)) ∧ (p2 = true → (0 ≤ v3 ∧ v3 < 7 ∧ b_X9_togetherOf_31 v1 Q (h_X9_togetherOf_4 v1 Q n) v3 v2 (T1 13 37 v3) T1)))))
def wp_X9_togetherOf (v1 : Int) (T : TH) (Q : Int → TH → Prop) : Prop :=
  (∃ m9 : Nat, h_X9_togetherOf_4 v1 Q m9 0 0 T)
set_option maxRecDepth 100000 in
theorem t_X9_togetherOf_31 {G : GT} {l0 : Launch} {X : CX} (C : CT G l0 X cX9_togetherOf 4 RX9 (rM 1 21)) {Q : Int → TH → Prop} (E : EN G X (some .int) (QI G Q)) {v1 : Int} {K4 : Int → Int → TH → Prop} (k4 : ∀ (v2 : Int) (v3 : Int) (T : TH), K4 v2 v3 T → V G X T 4 [(0, .ref (gad G 13)), (1, .int (zI v1)), (2, .int (zI v2)), (3, .int (zI v3))] []) {v3 : Int} {s0 : Int} {s1 : Int} {T : TH} (h : b_X9_togetherOf_31 v1 Q K4 v3 s0 s1 T) : V G X T 31 [(0, .ref (gad G 13)), (1, .int (zI v1)), (3, .int (zI v3))] [.int (zI s1), .int (zI s0)] := by
  unfold b_X9_togetherOf_31 at h
  refine v_iadd C dX9_togetherOf_31 ?_
  refine v_istore_n C dX9_togetherOf_32 rfl (by decide) ?_
  have h := h _ rfl
  refine v_iinc C 3 dX9_togetherOf_33 rfl (by decide) ?_
  refine v_goto (tgt := 4) C dX9_togetherOf_36 (by decide) ?_
  exact v_sub [2, 3, 1, 0] rfl (k4 _ _ _ h)
set_option maxRecDepth 100000 in
theorem t_X9_togetherOf_4 {G : GT} {l0 : Launch} {X : CX} (C : CT G l0 X cX9_togetherOf 4 RX9 (rM 1 21)) {Q : Int → TH → Prop} (E : EN G X (some .int) (QI G Q)) {v1 : Int} : ∀ (n : Nat) (v2 : Int) (v3 : Int) (T : TH), h_X9_togetherOf_4 v1 Q n v2 v3 T → V G X T 4 [(0, .ref (gad G 13)), (1, .int (zI v1)), (2, .int (zI v2)), (3, .int (zI v3))] [] := by
  intro n
  induction n with
  | zero =>
    intro v2 v3 T h
    exact h.elim
  | succ n ih =>
    intro v2 v3 T h
    rw [h_X9_togetherOf_4] at h
    refine v_iload_n C 3 dX9_togetherOf_4 rfl ?_
    refine v_aload_n C 0 dX9_togetherOf_5 rfl ?_
    refine v_getI C kX9 17 rfl rfl wd_833 rfl dX9_togetherOf_6 ?_
    obtain ⟨e1, e2, e3, e4⟩ := h
    refine v_icmp_ge (tgt := 39) C dX9_togetherOf_9 (by decide) e1 e2 (fun e5 => ?_) (fun e5 => ?_)
    · have h := e3 e5
      refine v_iload_n C 2 dX9_togetherOf_39 rfl ?_
      exact v_iret C E dX9_togetherOf_40 h
    · have h := e4 e5
      refine v_iload_n C 2 dX9_togetherOf_12 rfl ?_
      refine v_iload_n C 1 dX9_togetherOf_13 rfl ?_
      refine v_iload_n C 3 dX9_togetherOf_14 rfl ?_
      refine v_cSZ C (s_X9_has G l0 h) mv_X9_has wd_986 ⟨by decide, by decide⟩ rfl rfl (Nat.le_of_ble_eq_true rfl) dX9_togetherOf_15 (fun p2 T1 h => ?_)
      obtain ⟨e6, e7⟩ := h
      refine v_ifz_eq (tgt := 30) C dX9_togetherOf_18 (by decide) (fun e8 => ?_) (fun e8 => ?_)
      · have h := e6 e8
        refine v_iconst C dX9_togetherOf_30 ?_
        exact v_sub [0, 1, 3] rfl (t_X9_togetherOf_31 C E ih h)
      · have h := e7 e8
        refine v_aload_n C 0 dX9_togetherOf_21 rfl ?_
        refine v_getA C kX9 37 rfl rfl wd_853 rfl dX9_togetherOf_22 ?_
        refine v_iload_n C 3 dX9_togetherOf_25 rfl ?_
        obtain ⟨e9, e10, h⟩ := h
        refine v_iald C (ar_of (o := 13) rfl ar_9_37) dX9_togetherOf_26 e9 e10 ?_
        refine v_goto (tgt := 31) C dX9_togetherOf_27 (by decide) ?_
        exact v_sub [0, 1, 3] rfl (t_X9_togetherOf_31 C E ih h)
set_option maxRecDepth 100000 in
theorem s_X9_togetherOf (G : GT) (l0 : Launch) {v1 : Int} {T : TH} {Q : Int → TH → Prop} (h : wp_X9_togetherOf v1 T Q) : MT G l0 yX9_togetherOf cX9_togetherOf 4 (some .int) 1 21 [.ref (gad G 13), .int (zI v1)] T (QI G Q) := by
  refine mt_of G l0 (by decide) (Nat.le_of_ble_eq_true rfl) (fun X C E => ?_)
  show V G X T 0 [(0, .ref (gad G 13)), (1, .int (zI v1))] []
  unfold wp_X9_togetherOf at h
  refine v_iconst C dX9_togetherOf_0 ?_
  refine v_istore_n C dX9_togetherOf_1 rfl (by decide) ?_
  refine v_iconst C dX9_togetherOf_2 ?_
  refine v_istore_n C dX9_togetherOf_3 rfl (by decide) ?_
  obtain ⟨n9, h⟩ := h
  exact v_sub [2, 3, 1, 0] rfl (t_X9_togetherOf_4 C E n9 _ _ _ h)
def b_X9_trips_356 (v1 : Int) (v2 : Int) (v3 : Int) (Q : Int → TH → Prop) (v4 : Int) (v6 : Int) (T : TH) : Prop :=
  wp_X9_in v3 0 (v4 - 1) T (fun p2 T1 => (p2 = false → (Q (-1) T1)) ∧ (p2 = true → (Q v6 T1)))
def b_X9_trips_333 (v1 : Int) (v2 : Int) (v3 : Int) (Q : Int → TH → Prop) (K240 : Int → Int → Int → Int → TH → Prop) (K260 : Int → Int → Int → Int → Int → TH → Prop) (v4 : Int) (v5 : Int) (v7 : Int) (v8 : Int) (s0 : Int) (T : TH) : Prop :=
  K260 v4 v5 s0 v7 (v8 + (-1)) T
def b_X9_trips_331 (v1 : Int) (v2 : Int) (v3 : Int) (Q : Int → TH → Prop) (K240 : Int → Int → Int → Int → TH → Prop) (K260 : Int → Int → Int → Int → Int → TH → Prop) (v4 : Int) (v5 : Int) (v6 : Int) (v7 : Int) (v8 : Int) (T : TH) : Prop :=
  b_X9_trips_333 v1 v2 v3 Q K240 K260 v4 v5 v7 v8 v6 T
def b_X9_trips_295 (v1 : Int) (v2 : Int) (v3 : Int) (Q : Int → TH → Prop) (K240 : Int → Int → Int → Int → TH → Prop) (K260 : Int → Int → Int → Int → Int → TH → Prop) (v4 : Int) (v5 : Int) (v6 : Int) (v7 : Int) (v8 : Int) (y0 : Bool) (T : TH) : Prop :=
  (y0 = false → (b_X9_trips_331 v1 v2 v3 Q K240 K260 v4 v5 v6 v7 v8 T)) ∧ (y0 = true → (0 ≤ (zand v5 (zxor v8 (-1))) ∧ (zand v5 (zxor v8 (-1))) < 128 ∧ 0 ≤ v5 ∧ v5 < 128 ∧ zR (T 13 34 (zand v5 (zxor v8 (-1)))) ∧ zR ((T 13 34 v5) - 1) ∧ (¬ (T 13 34 (zand v5 (zxor v8 (-1)))) = ((T 13 34 v5) - 1) → (b_X9_trips_331 v1 v2 v3 Q K240 K260 v4 v5 v6 v7 v8 T)) ∧ ((T 13 34 (zand v5 (zxor v8 (-1)))) = ((T 13 34 v5) - 1) → (b_X9_trips_333 v1 v2 v3 Q K240 K260 v4 v5 v7 v8 v8 T))))
def b_X9_trips_294 (v1 : Int) (v2 : Int) (v3 : Int) (Q : Int → TH → Prop) (K240 : Int → Int → Int → Int → TH → Prop) (K260 : Int → Int → Int → Int → Int → TH → Prop) (v4 : Int) (v5 : Int) (v6 : Int) (v7 : Int) (v8 : Int) (T : TH) : Prop :=
  b_X9_trips_295 v1 v2 v3 Q K240 K260 v4 v5 v6 v7 v8 false T
def h_X9_trips_260 (v1 : Int) (v2 : Int) (v3 : Int) (Q : Int → TH → Prop) (K240 : Int → Int → Int → Int → TH → Prop) : Nat → Int → Int → Int → Int → Int → TH → Prop
  | 0, _, _, _, _, _, _ => False
  | n + 1, v4, v5, v6, v7, v8, T => zR v8 ∧ (v8 ≤ 0 → (∀ w1 : Int, w1 = (zand v5 (zxor v6 (-1))) → K240 v4 w1 v6 (v7 + 1) T)) ∧ (¬ (v8 ≤ 0) → (zR (zand v8 (zxor v5 (-1))) ∧ (¬ (zand v8 (zxor v5 (-1))) = 0 → (b_X9_trips_294 v1 v2 v3 Q K240 (h_X9_trips_260 v1 v2 v3 Q K240 n) v4 v5 v6 v7 v8 T)) ∧ ((zand v8 (zxor v5 (-1))) = 0 → (wp_X9_togetherOf v8 T (fun r3 T2 => 0 ≤ v2 ∧ v2 < 4 ∧ zR r3 ∧ zR (T2 13 24 v2) ∧ ((T2 13 24 v2) < r3 → (b_X9_trips_294 v1 v2 v3 Q K240 (h_X9_trips_260 v1 v2 v3 Q K240 n) v4 v5 v6 v7 v8 T2)) ∧ (¬ ((T2 13 24 v2) < r3) → (b_X9_trips_295 v1 v2 v3 Q K240 (h_X9_trips_260 v1 v2 v3 Q K240 n) v4 v5 v6 v7 v8 true T2)))))))
def h_X9_trips_240 (v1 : Int) (v2 : Int) (v3 : Int) (Q : Int → TH → Prop) : Nat → Int → Int → Int → Int → TH → Prop
  | 0, _, _, _, _, _ => False
  | n + 1, v4, v5, v6, v7, T => zR v7 ∧ zR v3 ∧ (v3 < v7 → (b_X9_trips_356 v1 v2 v3 Q v4 v6 T)) ∧ (¬ (v3 < v7) → (zR v7 ∧ zR v4 ∧ (v4 ≤ v7 → (b_X9_trips_356 v1 v2 v3 Q v4 v6 T)) ∧ (¬ (v4 ≤ v7) → ((∃ m9 : Nat, h_X9_trips_260 v1 v2 v3 Q (h_X9_trips_240 v1 v2 v3 Q n) m9 v4 v5 (-1) v7 v5 T)))))
def b_X9_trips_217 (v1 : Int) (v2 : Int) (v3 : Int) (Q : Int → TH → Prop) (v4 : Int) (T : TH) : Prop :=
  zR v4 ∧ (v4 < 99 → (Q v4 T)) ∧ (¬ (v4 < 99) → (Q (-1) T))
def b_X9_trips_184 (v1 : Int) (v2 : Int) (v3 : Int) (Q : Int → TH → Prop) (K57 : Int → TH → Prop) (K89 : Int → Int → TH → Prop) (v4 : Int) (v5 : Int) (s1 : Int) (s2 : Int) (T : TH) : Prop :=
  0 ≤ s1 ∧ s1 < 128 ∧ ∀ T1 : TH, T1 = up T 13 34 s1 s2 → K89 v4 (v5 + 1) T1
def b_X9_trips_152 (v1 : Int) (v2 : Int) (v3 : Int) (Q : Int → TH → Prop) (K57 : Int → TH → Prop) (K89 : Int → Int → TH → Prop) (v4 : Int) (v5 : Int) (s0 : Int) (T : TH) : Prop :=
  0 ≤ v4 ∧ v4 < 128 ∧ zR s0 ∧ zR (T 13 34 v4) ∧ ((T 13 34 v4) ≤ s0 → (0 ≤ v4 ∧ v4 < 128 ∧ b_X9_trips_184 v1 v2 v3 Q K57 K89 v4 v5 v4 (T 13 34 v4) T)) ∧ (¬ ((T 13 34 v4) ≤ s0) → (b_X9_trips_184 v1 v2 v3 Q K57 K89 v4 v5 v4 s0 T))
def b_X9_trips_126 (v1 : Int) (v2 : Int) (v3 : Int) (Q : Int → TH → Prop) (K57 : Int → TH → Prop) (K89 : Int → Int → TH → Prop) (v4 : Int) (v5 : Int) (y0 : Bool) (T : TH) : Prop :=
  (y0 = false → (b_X9_trips_152 v1 v2 v3 Q K57 K89 v4 v5 99 T)) ∧ (y0 = true → (0 ≤ (zand v4 (zxor v5 (-1))) ∧ (zand v4 (zxor v5 (-1))) < 128 ∧ b_X9_trips_152 v1 v2 v3 Q K57 K89 v4 v5 ((T 13 34 (zand v4 (zxor v5 (-1)))) + 1) T))
def b_X9_trips_125 (v1 : Int) (v2 : Int) (v3 : Int) (Q : Int → TH → Prop) (K57 : Int → TH → Prop) (K89 : Int → Int → TH → Prop) (v4 : Int) (v5 : Int) (T : TH) : Prop :=
  b_X9_trips_126 v1 v2 v3 Q K57 K89 v4 v5 false T
def h_X9_trips_89 (v1 : Int) (v2 : Int) (v3 : Int) (Q : Int → TH → Prop) (K57 : Int → TH → Prop) : Nat → Int → Int → TH → Prop
  | 0, _, _, _ => False
  | n + 1, v4, v5, T => zR v5 ∧ zR v4 ∧ (v4 < v5 → (K57 (v4 + 1) T)) ∧ (¬ (v4 < v5) → (zR (zand v5 (zxor v4 (-1))) ∧ (¬ (zand v5 (zxor v4 (-1))) = 0 → (b_X9_trips_125 v1 v2 v3 Q K57 (h_X9_trips_89 v1 v2 v3 Q K57 n) v4 v5 T)) ∧ ((zand v5 (zxor v4 (-1))) = 0 → (wp_X9_togetherOf v5 T (fun r2 T1 => 0 ≤ v2 ∧ v2 < 4 ∧ zR r2 ∧ zR (T1 13 24 v2) ∧ ((T1 13 24 v2) < r2 → (b_X9_trips_125 v1 v2 v3 Q K57 (h_X9_trips_89 v1 v2 v3 Q K57 n) v4 v5 T1)) ∧ (¬ ((T1 13 24 v2) < r2) → (b_X9_trips_126 v1 v2 v3 Q K57 (h_X9_trips_89 v1 v2 v3 Q K57 n) v4 v5 true T1)))))))
def b_X9_trips_85 (v1 : Int) (v2 : Int) (v3 : Int) (Q : Int → TH → Prop) (K57 : Int → TH → Prop) (v4 : Int) (s1 : Int) (s2 : Int) (T : TH) : Prop :=
  0 ≤ s1 ∧ s1 < 128 ∧ ∀ T1 : TH, T1 = up T 13 34 s1 s2 → (∃ m9 : Nat, h_X9_trips_89 v1 v2 v3 Q K57 m9 v4 1 T1)
def h_X9_trips_57 (v1 : Int) (v2 : Int) (v3 : Int) (Q : Int → TH → Prop) : Nat → Int → TH → Prop
  | 0, _, _ => False
  | n + 1, v4, T => zR v4 ∧ zR (zshl 1 (T 13 17 0)) ∧ ((zshl 1 (T 13 17 0)) ≤ v4 → (0 ≤ v1 ∧ v1 < 128 ∧ ∀ w1 : Int, w1 = (T 13 34 v1) → zR w1 ∧ (99 ≤ w1 → (b_X9_trips_217 v1 v2 v3 Q w1 T)) ∧ (¬ (99 ≤ w1) → (zR v3 ∧ (¬ v3 = (-1) → ((∃ m9 : Nat, h_X9_trips_240 v1 v2 v3 Q m9 w1 v1 (-1) 0 T))) ∧ (v3 = (-1) → (b_X9_trips_217 v1 v2 v3 Q w1 T)))))) ∧ (¬ ((zshl 1 (T 13 17 0)) ≤ v4) → (zR v4 ∧ (¬ v4 = 0 → (b_X9_trips_85 v1 v2 v3 Q (h_X9_trips_57 v1 v2 v3 Q n) v4 v4 99 T)) ∧ (v4 = 0 → (b_X9_trips_85 v1 v2 v3 Q (h_X9_trips_57 v1 v2 v3 Q n) v4 v4 0 T))))
def h_X9_trips_22 (v1 : Int) (v2 : Int) (v3 : Int) (Q : Int → TH → Prop) : Nat → Int → TH → Prop
  | 0, _, _ => False
  | n + 1, v4, T => zR v4 ∧ zR (T 13 17 0) ∧ ((T 13 17 0) ≤ v4 → ((∃ m9 : Nat, h_X9_trips_57 v1 v2 v3 Q m9 0 T))) ∧ (¬ ((T 13 17 0) ≤ v4) → (wp_X9_weightOf 13 26 58 v4 T (fun r2 T1 => 0 ≤ v4 ∧ v4 < 7 ∧ ∀ T3 : TH, T3 = up T1 13 37 v4 r2 → (h_X9_trips_22 v1 v2 v3 Q n) (v4 + 1) T3)))
def wp_X9_trips (v1 : Int) (v2 : Int) (v3 : Int) (T : TH) (Q : Int → TH → Prop) : Prop :=
  wp_X9_isSet v1 T (fun p2 T1 => (p2 = false → (Q (-1000000001) T1)) ∧ (p2 = true → (wp_X9_isBridge v2 T1 (fun p4 T3 => (p4 = true → ((∃ m9 : Nat, h_X9_trips_22 v1 v2 v3 Q m9 0 T3))) ∧ (p4 = false → (Q (-1000000001) T3))))))
set_option maxRecDepth 100000 in
theorem t_X9_trips_356 {G : GT} {l0 : Launch} {X : CX} (C : CT G l0 X cX9_trips 10 RX9 (rM 3 71)) {Q : Int → TH → Prop} (E : EN G X (some .int) (QI G Q)) {v1 : Int} {v2 : Int} {v3 : Int} {v4 : Int} {v6 : Int} {T : TH} (h : b_X9_trips_356 v1 v2 v3 Q v4 v6 T) : V G X T 356 [(0, .ref (gad G 13)), (1, .int (zI v1)), (2, .int (zI v2)), (3, .int (zI v3)), (4, .int (zI v4)), (6, .int (zI v6))] [] := by
  unfold b_X9_trips_356 at h
  refine v_iload_n C 3 dX9_trips_356 rfl ?_
  refine v_iconst C dX9_trips_357 ?_
  refine v_iload C 4 dX9_trips_358 rfl ?_
  refine v_iconst C dX9_trips_360 ?_
  refine v_isub C dX9_trips_361 ?_
  refine v_cSZ C (s_X9_in G l0 h) mv_X9_in wd_937 ⟨by decide, by decide⟩ rfl rfl (Nat.le_of_ble_eq_true rfl) dX9_trips_362 (fun p2 T1 h => ?_)
  obtain ⟨e1, e2⟩ := h
  refine v_ifz_eq (tgt := 373) C dX9_trips_365 (by decide) (fun e3 => ?_) (fun e3 => ?_)
  · have h := e1 e3
    refine v_iconst C dX9_trips_373 ?_
    exact v_iret C E dX9_trips_374 h
  · have h := e2 e3
    refine v_iload C 5 dX9_trips_368 rfl ?_
    refine v_goto (tgt := 374) C dX9_trips_370 (by decide) ?_
    exact v_iret C E dX9_trips_374 h
set_option maxRecDepth 100000 in
theorem t_X9_trips_333 {G : GT} {l0 : Launch} {X : CX} (C : CT G l0 X cX9_trips 10 RX9 (rM 3 71)) {Q : Int → TH → Prop} (E : EN G X (some .int) (QI G Q)) {v1 : Int} {v2 : Int} {v3 : Int} {K240 : Int → Int → Int → Int → TH → Prop} {K260 : Int → Int → Int → Int → Int → TH → Prop} (k240 : ∀ (v4 : Int) (v5 : Int) (v6 : Int) (v7 : Int) (T : TH), K240 v4 v5 v6 v7 T → V G X T 240 [(0, .ref (gad G 13)), (1, .int (zI v1)), (2, .int (zI v2)), (3, .int (zI v3)), (4, .int (zI v4)), (5, .int (zI v5)), (6, .int (zI v6)), (7, .int (zI v7))] []) (k260 : ∀ (v4 : Int) (v5 : Int) (v6 : Int) (v7 : Int) (v8 : Int) (T : TH), K260 v4 v5 v6 v7 v8 T → V G X T 260 [(0, .ref (gad G 13)), (1, .int (zI v1)), (2, .int (zI v2)), (3, .int (zI v3)), (4, .int (zI v4)), (5, .int (zI v5)), (6, .int (zI v6)), (7, .int (zI v7)), (8, .int (zI v8))] []) {v4 : Int} {v5 : Int} {v7 : Int} {v8 : Int} {s0 : Int} {T : TH} (h : b_X9_trips_333 v1 v2 v3 Q K240 K260 v4 v5 v7 v8 s0 T) : V G X T 333 [(0, .ref (gad G 13)), (1, .int (zI v1)), (2, .int (zI v2)), (3, .int (zI v3)), (4, .int (zI v4)), (5, .int (zI v5)), (7, .int (zI v7)), (8, .int (zI v8))] [.int (zI s0)] := by
  unfold b_X9_trips_333 at h
  refine v_istore C dX9_trips_333 (by decide) ?_
  refine v_iinc C 8 dX9_trips_335 rfl (by decide) ?_
  refine v_goto (tgt := 260) C dX9_trips_338 (by decide) ?_
  exact v_sub [2, 3, 4, 5, 6, 7, 1, 8, 0] rfl (k260 _ _ _ _ _ _ h)
set_option maxRecDepth 100000 in
theorem t_X9_trips_331 {G : GT} {l0 : Launch} {X : CX} (C : CT G l0 X cX9_trips 10 RX9 (rM 3 71)) {Q : Int → TH → Prop} (E : EN G X (some .int) (QI G Q)) {v1 : Int} {v2 : Int} {v3 : Int} {K240 : Int → Int → Int → Int → TH → Prop} {K260 : Int → Int → Int → Int → Int → TH → Prop} (k240 : ∀ (v4 : Int) (v5 : Int) (v6 : Int) (v7 : Int) (T : TH), K240 v4 v5 v6 v7 T → V G X T 240 [(0, .ref (gad G 13)), (1, .int (zI v1)), (2, .int (zI v2)), (3, .int (zI v3)), (4, .int (zI v4)), (5, .int (zI v5)), (6, .int (zI v6)), (7, .int (zI v7))] []) (k260 : ∀ (v4 : Int) (v5 : Int) (v6 : Int) (v7 : Int) (v8 : Int) (T : TH), K260 v4 v5 v6 v7 v8 T → V G X T 260 [(0, .ref (gad G 13)), (1, .int (zI v1)), (2, .int (zI v2)), (3, .int (zI v3)), (4, .int (zI v4)), (5, .int (zI v5)), (6, .int (zI v6)), (7, .int (zI v7)), (8, .int (zI v8))] []) {v4 : Int} {v5 : Int} {v6 : Int} {v7 : Int} {v8 : Int} {T : TH} (h : b_X9_trips_331 v1 v2 v3 Q K240 K260 v4 v5 v6 v7 v8 T) : V G X T 331 [(0, .ref (gad G 13)), (1, .int (zI v1)), (2, .int (zI v2)), (3, .int (zI v3)), (4, .int (zI v4)), (5, .int (zI v5)), (6, .int (zI v6)), (7, .int (zI v7)), (8, .int (zI v8))] [] := by
  unfold b_X9_trips_331 at h
  refine v_iload C 6 dX9_trips_331 rfl ?_
  exact v_sub [0, 1, 2, 3, 4, 5, 7, 8] rfl (t_X9_trips_333 C E k240 k260 h)
set_option maxRecDepth 100000 in
theorem t_X9_trips_295 {G : GT} {l0 : Launch} {X : CX} (C : CT G l0 X cX9_trips 10 RX9 (rM 3 71)) {Q : Int → TH → Prop} (E : EN G X (some .int) (QI G Q)) {v1 : Int} {v2 : Int} {v3 : Int} {K240 : Int → Int → Int → Int → TH → Prop} {K260 : Int → Int → Int → Int → Int → TH → Prop} (k240 : ∀ (v4 : Int) (v5 : Int) (v6 : Int) (v7 : Int) (T : TH), K240 v4 v5 v6 v7 T → V G X T 240 [(0, .ref (gad G 13)), (1, .int (zI v1)), (2, .int (zI v2)), (3, .int (zI v3)), (4, .int (zI v4)), (5, .int (zI v5)), (6, .int (zI v6)), (7, .int (zI v7))] []) (k260 : ∀ (v4 : Int) (v5 : Int) (v6 : Int) (v7 : Int) (v8 : Int) (T : TH), K260 v4 v5 v6 v7 v8 T → V G X T 260 [(0, .ref (gad G 13)), (1, .int (zI v1)), (2, .int (zI v2)), (3, .int (zI v3)), (4, .int (zI v4)), (5, .int (zI v5)), (6, .int (zI v6)), (7, .int (zI v7)), (8, .int (zI v8))] []) {v4 : Int} {v5 : Int} {v6 : Int} {v7 : Int} {v8 : Int} {y0 : Bool} {T : TH} (h : b_X9_trips_295 v1 v2 v3 Q K240 K260 v4 v5 v6 v7 v8 y0 T) : V G X T 295 [(0, .ref (gad G 13)), (1, .int (zI v1)), (2, .int (zI v2)), (3, .int (zI v3)), (4, .int (zI v4)), (5, .int (zI v5)), (6, .int (zI v6)), (7, .int (zI v7)), (8, .int (zI v8))] [.int (zI (zi y0))] := by
  unfold b_X9_trips_295 at h
  refine v_istore C dX9_trips_295 (by decide) ?_
  refine v_iload C 0 dX9_trips_297 rfl ?_
  obtain ⟨e1, e2⟩ := h
  refine v_ifz_eq (tgt := 331) C dX9_trips_299 (by decide) (fun e3 => ?_) (fun e3 => ?_)
  · have h := e1 e3
    exact v_sub [1, 2, 3, 4, 5, 6, 7, 8, 9] rfl (t_X9_trips_331 C E k240 k260 h)
  · have h := e2 e3
    refine v_aload_n C 1 dX9_trips_302 rfl ?_
    refine v_getA C kX9 34 rfl rfl wd_850 rfl dX9_trips_303 ?_
    refine v_iload C 6 dX9_trips_306 rfl ?_
    refine v_iload C 9 dX9_trips_308 rfl ?_
    refine v_iconst C dX9_trips_310 ?_
    refine v_ixor C dX9_trips_311 ?_
    refine v_iand C dX9_trips_312 ?_
    obtain ⟨e4, e5, h⟩ := h
    refine v_iald C (ar_of (o := 13) rfl ar_9_34) dX9_trips_313 e4 e5 ?_
    refine v_aload_n C 1 dX9_trips_314 rfl ?_
    refine v_getA C kX9 34 rfl rfl wd_850 rfl dX9_trips_315 ?_
    refine v_iload C 6 dX9_trips_318 rfl ?_
    obtain ⟨e6, e7, h⟩ := h
    refine v_iald C (ar_of (o := 13) rfl ar_9_34) dX9_trips_320 e6 e7 ?_
    refine v_iconst C dX9_trips_321 ?_
    refine v_isub C dX9_trips_322 ?_
    obtain ⟨e8, e9, e10, e11⟩ := h
    refine v_icmp_ne (tgt := 331) C dX9_trips_323 (by decide) e8 e9 (fun e12 => ?_) (fun e12 => ?_)
    · have h := e10 e12
      exact v_sub [1, 2, 3, 4, 5, 6, 7, 8, 9] rfl (t_X9_trips_331 C E k240 k260 h)
    · have h := e11 e12
      refine v_iload C 9 dX9_trips_326 rfl ?_
      refine v_goto (tgt := 333) C dX9_trips_328 (by decide) ?_
      exact v_sub [1, 2, 3, 4, 5, 6, 8, 9] rfl (t_X9_trips_333 C E k240 k260 h)
set_option maxRecDepth 100000 in
theorem t_X9_trips_294 {G : GT} {l0 : Launch} {X : CX} (C : CT G l0 X cX9_trips 10 RX9 (rM 3 71)) {Q : Int → TH → Prop} (E : EN G X (some .int) (QI G Q)) {v1 : Int} {v2 : Int} {v3 : Int} {K240 : Int → Int → Int → Int → TH → Prop} {K260 : Int → Int → Int → Int → Int → TH → Prop} (k240 : ∀ (v4 : Int) (v5 : Int) (v6 : Int) (v7 : Int) (T : TH), K240 v4 v5 v6 v7 T → V G X T 240 [(0, .ref (gad G 13)), (1, .int (zI v1)), (2, .int (zI v2)), (3, .int (zI v3)), (4, .int (zI v4)), (5, .int (zI v5)), (6, .int (zI v6)), (7, .int (zI v7))] []) (k260 : ∀ (v4 : Int) (v5 : Int) (v6 : Int) (v7 : Int) (v8 : Int) (T : TH), K260 v4 v5 v6 v7 v8 T → V G X T 260 [(0, .ref (gad G 13)), (1, .int (zI v1)), (2, .int (zI v2)), (3, .int (zI v3)), (4, .int (zI v4)), (5, .int (zI v5)), (6, .int (zI v6)), (7, .int (zI v7)), (8, .int (zI v8))] []) {v4 : Int} {v5 : Int} {v6 : Int} {v7 : Int} {v8 : Int} {T : TH} (h : b_X9_trips_294 v1 v2 v3 Q K240 K260 v4 v5 v6 v7 v8 T) : V G X T 294 [(0, .ref (gad G 13)), (1, .int (zI v1)), (2, .int (zI v2)), (3, .int (zI v3)), (4, .int (zI v4)), (5, .int (zI v5)), (6, .int (zI v6)), (7, .int (zI v7)), (8, .int (zI v8))] [] := by
  unfold b_X9_trips_294 at h
  refine v_iconst C dX9_trips_294 ?_
  exact v_sub [0, 1, 2, 3, 4, 5, 6, 7, 8] rfl (t_X9_trips_295 C E k240 k260 h)
set_option maxRecDepth 100000 in
theorem t_X9_trips_260 {G : GT} {l0 : Launch} {X : CX} (C : CT G l0 X cX9_trips 10 RX9 (rM 3 71)) {Q : Int → TH → Prop} (E : EN G X (some .int) (QI G Q)) {v1 : Int} {v2 : Int} {v3 : Int} {K240 : Int → Int → Int → Int → TH → Prop} (k240 : ∀ (v4 : Int) (v5 : Int) (v6 : Int) (v7 : Int) (T : TH), K240 v4 v5 v6 v7 T → V G X T 240 [(0, .ref (gad G 13)), (1, .int (zI v1)), (2, .int (zI v2)), (3, .int (zI v3)), (4, .int (zI v4)), (5, .int (zI v5)), (6, .int (zI v6)), (7, .int (zI v7))] []) : ∀ (n : Nat) (v4 : Int) (v5 : Int) (v6 : Int) (v7 : Int) (v8 : Int) (T : TH), h_X9_trips_260 v1 v2 v3 Q K240 n v4 v5 v6 v7 v8 T → V G X T 260 [(0, .ref (gad G 13)), (1, .int (zI v1)), (2, .int (zI v2)), (3, .int (zI v3)), (4, .int (zI v4)), (5, .int (zI v5)), (6, .int (zI v6)), (7, .int (zI v7)), (8, .int (zI v8))] [] := by
  intro n
  induction n with
  | zero =>
    intro v4 v5 v6 v7 v8 T h
    exact h.elim
  | succ n ih =>
    intro v4 v5 v6 v7 v8 T h
    rw [h_X9_trips_260] at h
    refine v_iload C 8 dX9_trips_260 rfl ?_
    obtain ⟨e1, e2, e3⟩ := h
    refine v_if_le (tgt := 341) C dX9_trips_262 (by decide) e1 (fun e4 => ?_) (fun e4 => ?_)
    · have h := e2 e4
      refine v_iload C 5 dX9_trips_341 rfl ?_
      refine v_iload C 6 dX9_trips_343 rfl ?_
      refine v_iconst C dX9_trips_345 ?_
      refine v_ixor C dX9_trips_346 ?_
      refine v_iand C dX9_trips_347 ?_
      refine v_istore C dX9_trips_348 (by decide) ?_
      have h := h _ rfl
      refine v_iinc C 7 dX9_trips_350 rfl (by decide) ?_
      refine v_goto (tgt := 240) C dX9_trips_353 (by decide) ?_
      exact v_sub [2, 3, 4, 5, 6, 1, 7, 0] rfl (k240 _ _ _ _ _ h)
    · have h := e3 e4
      refine v_iload C 8 dX9_trips_265 rfl ?_
      refine v_iload C 5 dX9_trips_267 rfl ?_
      refine v_iconst C dX9_trips_269 ?_
      refine v_ixor C dX9_trips_270 ?_
      refine v_iand C dX9_trips_271 ?_
      obtain ⟨e5, e6, e7⟩ := h
      refine v_if_ne (tgt := 294) C dX9_trips_272 (by decide) e5 (fun e8 => ?_) (fun e8 => ?_)
      · have h := e6 e8
        exact v_sub [0, 1, 2, 3, 4, 5, 6, 7, 8] rfl (t_X9_trips_294 C E k240 ih h)
      · have h := e7 e8
        refine v_aload_n C 0 dX9_trips_275 rfl ?_
        refine v_iload C 8 dX9_trips_276 rfl ?_
        refine v_cVI C kX9 rfl (s_X9_togetherOf G l0 h) mv_X9_togetherOf wd_1130 ⟨by decide, by decide⟩ rfl rfl (Nat.le_of_ble_eq_true rfl) dX9_trips_278 (fun r3 T2 h => ?_)
        refine v_aload_n C 0 dX9_trips_281 rfl ?_
        refine v_getA C kX9 24 rfl rfl wd_840 rfl dX9_trips_282 ?_
        refine v_iload_n C 2 dX9_trips_285 rfl ?_
        obtain ⟨e9, e10, h⟩ := h
        refine v_iald C (ar_of (o := 13) rfl ar_9_24) dX9_trips_286 e9 e10 ?_
        obtain ⟨e11, e12, e13, e14⟩ := h
        refine v_icmp_gt (tgt := 294) C dX9_trips_287 (by decide) e11 e12 (fun e15 => ?_) (fun e15 => ?_)
        · have h := e13 e15
          exact v_sub [0, 1, 2, 3, 4, 5, 6, 7, 8] rfl (t_X9_trips_294 C E k240 ih h)
        · have h := e14 e15
          refine v_iconst C dX9_trips_290 ?_
          refine v_goto (tgt := 295) C dX9_trips_291 (by decide) ?_
          exact v_sub [0, 1, 2, 3, 4, 5, 6, 7, 8] rfl (t_X9_trips_295 C E k240 ih h)
set_option maxRecDepth 100000 in
theorem t_X9_trips_240 {G : GT} {l0 : Launch} {X : CX} (C : CT G l0 X cX9_trips 10 RX9 (rM 3 71)) {Q : Int → TH → Prop} (E : EN G X (some .int) (QI G Q)) {v1 : Int} {v2 : Int} {v3 : Int} : ∀ (n : Nat) (v4 : Int) (v5 : Int) (v6 : Int) (v7 : Int) (T : TH), h_X9_trips_240 v1 v2 v3 Q n v4 v5 v6 v7 T → V G X T 240 [(0, .ref (gad G 13)), (1, .int (zI v1)), (2, .int (zI v2)), (3, .int (zI v3)), (4, .int (zI v4)), (5, .int (zI v5)), (6, .int (zI v6)), (7, .int (zI v7))] [] := by
  intro n
  induction n with
  | zero =>
    intro v4 v5 v6 v7 T h
    exact h.elim
  | succ n ih =>
    intro v4 v5 v6 v7 T h
    rw [h_X9_trips_240] at h
    refine v_iload C 7 dX9_trips_240 rfl ?_
    refine v_iload_n C 3 dX9_trips_242 rfl ?_
    obtain ⟨e1, e2, e3, e4⟩ := h
    refine v_icmp_gt (tgt := 356) C dX9_trips_243 (by decide) e1 e2 (fun e5 => ?_) (fun e5 => ?_)
    · have h := e3 e5
      exact v_sub [0, 1, 2, 3, 4, 6] rfl (t_X9_trips_356 C E h)
    · have h := e4 e5
      refine v_iload C 7 dX9_trips_246 rfl ?_
      refine v_iload C 4 dX9_trips_248 rfl ?_
      obtain ⟨e6, e7, e8, e9⟩ := h
      refine v_icmp_ge (tgt := 356) C dX9_trips_250 (by decide) e6 e7 (fun e10 => ?_) (fun e10 => ?_)
      · have h := e8 e10
        exact v_sub [0, 1, 2, 3, 4, 6] rfl (t_X9_trips_356 C E h)
      · have h := e9 e10
        refine v_iconst C dX9_trips_253 ?_
        refine v_istore C dX9_trips_254 (by decide) ?_
        refine v_iload C 6 dX9_trips_256 rfl ?_
        refine v_istore C dX9_trips_258 (by decide) ?_
        obtain ⟨n9, h⟩ := h
        exact v_sub [2, 3, 4, 5, 6, 7, 1, 8, 0] rfl (t_X9_trips_260 C E ih n9 _ _ _ _ _ _ h)
set_option maxRecDepth 100000 in
theorem t_X9_trips_217 {G : GT} {l0 : Launch} {X : CX} (C : CT G l0 X cX9_trips 10 RX9 (rM 3 71)) {Q : Int → TH → Prop} (E : EN G X (some .int) (QI G Q)) {v1 : Int} {v2 : Int} {v3 : Int} {v4 : Int} {T : TH} (h : b_X9_trips_217 v1 v2 v3 Q v4 T) : V G X T 217 [(0, .ref (gad G 13)), (1, .int (zI v1)), (2, .int (zI v2)), (3, .int (zI v3)), (4, .int (zI v4))] [] := by
  unfold b_X9_trips_217 at h
  refine v_iload C 4 dX9_trips_217 rfl ?_
  refine v_bipush C dX9_trips_219 (by decide) ?_
  obtain ⟨e1, e2, e3⟩ := h
  refine v_icmp_lt (tgt := 228) C dX9_trips_221 (by decide) e1 ⟨by decide, by decide⟩ (fun e4 => ?_) (fun e4 => ?_)
  · have h := e2 e4
    refine v_iload C 4 dX9_trips_228 rfl ?_
    exact v_iret C E dX9_trips_230 h
  · have h := e3 e4
    refine v_iconst C dX9_trips_224 ?_
    refine v_goto (tgt := 230) C dX9_trips_225 (by decide) ?_
    exact v_iret C E dX9_trips_230 h
set_option maxRecDepth 100000 in
theorem t_X9_trips_184 {G : GT} {l0 : Launch} {X : CX} (C : CT G l0 X cX9_trips 10 RX9 (rM 3 71)) {Q : Int → TH → Prop} (E : EN G X (some .int) (QI G Q)) {v1 : Int} {v2 : Int} {v3 : Int} {K57 : Int → TH → Prop} {K89 : Int → Int → TH → Prop} (k57 : ∀ (v4 : Int) (T : TH), K57 v4 T → V G X T 57 [(0, .ref (gad G 13)), (1, .int (zI v1)), (2, .int (zI v2)), (3, .int (zI v3)), (4, .int (zI v4))] []) (k89 : ∀ (v4 : Int) (v5 : Int) (T : TH), K89 v4 v5 T → V G X T 89 [(0, .ref (gad G 13)), (1, .int (zI v1)), (2, .int (zI v2)), (3, .int (zI v3)), (4, .int (zI v4)), (5, .int (zI v5))] []) {v4 : Int} {v5 : Int} {s1 : Int} {s2 : Int} {T : TH} (h : b_X9_trips_184 v1 v2 v3 Q K57 K89 v4 v5 s1 s2 T) : V G X T 184 [(0, .ref (gad G 13)), (1, .int (zI v1)), (2, .int (zI v2)), (3, .int (zI v3)), (4, .int (zI v4)), (5, .int (zI v5))] [.int (zI s2), .int (zI s1), .ref (gaa G 13 34)] := by
  unfold b_X9_trips_184 at h
  obtain ⟨e1, e2, h⟩ := h
  refine v_iast C (ar_of (o := 13) rfl ar_9_34) dX9_trips_184 e1 e2 ?_
  have h := h _ rfl
  refine v_iinc C 5 dX9_trips_185 rfl (by decide) ?_
  refine v_goto (tgt := 89) C dX9_trips_188 (by decide) ?_
  exact v_sub [1, 2, 3, 4, 5, 0] rfl (k89 _ _ _ h)
set_option maxRecDepth 100000 in
theorem t_X9_trips_152 {G : GT} {l0 : Launch} {X : CX} (C : CT G l0 X cX9_trips 10 RX9 (rM 3 71)) {Q : Int → TH → Prop} (E : EN G X (some .int) (QI G Q)) {v1 : Int} {v2 : Int} {v3 : Int} {K57 : Int → TH → Prop} {K89 : Int → Int → TH → Prop} (k57 : ∀ (v4 : Int) (T : TH), K57 v4 T → V G X T 57 [(0, .ref (gad G 13)), (1, .int (zI v1)), (2, .int (zI v2)), (3, .int (zI v3)), (4, .int (zI v4))] []) (k89 : ∀ (v4 : Int) (v5 : Int) (T : TH), K89 v4 v5 T → V G X T 89 [(0, .ref (gad G 13)), (1, .int (zI v1)), (2, .int (zI v2)), (3, .int (zI v3)), (4, .int (zI v4)), (5, .int (zI v5))] []) {v4 : Int} {v5 : Int} {s0 : Int} {T : TH} (h : b_X9_trips_152 v1 v2 v3 Q K57 K89 v4 v5 s0 T) : V G X T 152 [(0, .ref (gad G 13)), (1, .int (zI v1)), (2, .int (zI v2)), (3, .int (zI v3)), (4, .int (zI v4)), (5, .int (zI v5))] [.int (zI s0)] := by
  unfold b_X9_trips_152 at h
  refine v_istore C dX9_trips_152 (by decide) ?_
  refine v_aload_n C 1 dX9_trips_154 rfl ?_
  refine v_getA C kX9 34 rfl rfl wd_850 rfl dX9_trips_155 ?_
  refine v_iload C 5 dX9_trips_158 rfl ?_
  refine v_iload C 0 dX9_trips_160 rfl ?_
  refine v_aload_n C 1 dX9_trips_162 rfl ?_
  refine v_getA C kX9 34 rfl rfl wd_850 rfl dX9_trips_163 ?_
  refine v_iload C 5 dX9_trips_166 rfl ?_
  obtain ⟨e1, e2, h⟩ := h
  refine v_iald C (ar_of (o := 13) rfl ar_9_34) dX9_trips_168 e1 e2 ?_
  obtain ⟨e3, e4, e5, e6⟩ := h
  refine v_icmp_ge (tgt := 177) C dX9_trips_169 (by decide) e3 e4 (fun e7 => ?_) (fun e7 => ?_)
  · have h := e5 e7
    refine v_aload_n C 1 dX9_trips_177 rfl ?_
    refine v_getA C kX9 34 rfl rfl wd_850 rfl dX9_trips_178 ?_
    refine v_iload C 5 dX9_trips_181 rfl ?_
    obtain ⟨e8, e9, h⟩ := h
    refine v_iald C (ar_of (o := 13) rfl ar_9_34) dX9_trips_183 e8 e9 ?_
    exact v_sub [1, 2, 3, 4, 5, 6] rfl (t_X9_trips_184 C E k57 k89 h)
  · have h := e6 e7
    refine v_iload C 0 dX9_trips_172 rfl ?_
    refine v_goto (tgt := 184) C dX9_trips_174 (by decide) ?_
    exact v_sub [1, 2, 3, 4, 5, 6] rfl (t_X9_trips_184 C E k57 k89 h)
set_option maxRecDepth 100000 in
theorem t_X9_trips_126 {G : GT} {l0 : Launch} {X : CX} (C : CT G l0 X cX9_trips 10 RX9 (rM 3 71)) {Q : Int → TH → Prop} (E : EN G X (some .int) (QI G Q)) {v1 : Int} {v2 : Int} {v3 : Int} {K57 : Int → TH → Prop} {K89 : Int → Int → TH → Prop} (k57 : ∀ (v4 : Int) (T : TH), K57 v4 T → V G X T 57 [(0, .ref (gad G 13)), (1, .int (zI v1)), (2, .int (zI v2)), (3, .int (zI v3)), (4, .int (zI v4))] []) (k89 : ∀ (v4 : Int) (v5 : Int) (T : TH), K89 v4 v5 T → V G X T 89 [(0, .ref (gad G 13)), (1, .int (zI v1)), (2, .int (zI v2)), (3, .int (zI v3)), (4, .int (zI v4)), (5, .int (zI v5))] []) {v4 : Int} {v5 : Int} {y0 : Bool} {T : TH} (h : b_X9_trips_126 v1 v2 v3 Q K57 K89 v4 v5 y0 T) : V G X T 126 [(0, .ref (gad G 13)), (1, .int (zI v1)), (2, .int (zI v2)), (3, .int (zI v3)), (4, .int (zI v4)), (5, .int (zI v5))] [.int (zI (zi y0))] := by
  unfold b_X9_trips_126 at h
  refine v_istore C dX9_trips_126 (by decide) ?_
  refine v_iload C 0 dX9_trips_128 rfl ?_
  obtain ⟨e1, e2⟩ := h
  refine v_ifz_eq (tgt := 150) C dX9_trips_130 (by decide) (fun e3 => ?_) (fun e3 => ?_)
  · have h := e1 e3
    refine v_bipush C dX9_trips_150 (by decide) ?_
    exact v_sub [1, 2, 3, 4, 5, 6] rfl (t_X9_trips_152 C E k57 k89 h)
  · have h := e2 e3
    refine v_aload_n C 1 dX9_trips_133 rfl ?_
    refine v_getA C kX9 34 rfl rfl wd_850 rfl dX9_trips_134 ?_
    refine v_iload C 5 dX9_trips_137 rfl ?_
    refine v_iload C 6 dX9_trips_139 rfl ?_
    refine v_iconst C dX9_trips_141 ?_
    refine v_ixor C dX9_trips_142 ?_
    refine v_iand C dX9_trips_143 ?_
    obtain ⟨e4, e5, h⟩ := h
    refine v_iald C (ar_of (o := 13) rfl ar_9_34) dX9_trips_144 e4 e5 ?_
    refine v_iconst C dX9_trips_145 ?_
    refine v_iadd C dX9_trips_146 ?_
    refine v_goto (tgt := 152) C dX9_trips_147 (by decide) ?_
    exact v_sub [1, 2, 3, 4, 5, 6] rfl (t_X9_trips_152 C E k57 k89 h)
set_option maxRecDepth 100000 in
theorem t_X9_trips_125 {G : GT} {l0 : Launch} {X : CX} (C : CT G l0 X cX9_trips 10 RX9 (rM 3 71)) {Q : Int → TH → Prop} (E : EN G X (some .int) (QI G Q)) {v1 : Int} {v2 : Int} {v3 : Int} {K57 : Int → TH → Prop} {K89 : Int → Int → TH → Prop} (k57 : ∀ (v4 : Int) (T : TH), K57 v4 T → V G X T 57 [(0, .ref (gad G 13)), (1, .int (zI v1)), (2, .int (zI v2)), (3, .int (zI v3)), (4, .int (zI v4))] []) (k89 : ∀ (v4 : Int) (v5 : Int) (T : TH), K89 v4 v5 T → V G X T 89 [(0, .ref (gad G 13)), (1, .int (zI v1)), (2, .int (zI v2)), (3, .int (zI v3)), (4, .int (zI v4)), (5, .int (zI v5))] []) {v4 : Int} {v5 : Int} {T : TH} (h : b_X9_trips_125 v1 v2 v3 Q K57 K89 v4 v5 T) : V G X T 125 [(0, .ref (gad G 13)), (1, .int (zI v1)), (2, .int (zI v2)), (3, .int (zI v3)), (4, .int (zI v4)), (5, .int (zI v5))] [] := by
  unfold b_X9_trips_125 at h
  refine v_iconst C dX9_trips_125 ?_
  exact v_sub [0, 1, 2, 3, 4, 5] rfl (t_X9_trips_126 C E k57 k89 h)
set_option maxRecDepth 100000 in
theorem t_X9_trips_89 {G : GT} {l0 : Launch} {X : CX} (C : CT G l0 X cX9_trips 10 RX9 (rM 3 71)) {Q : Int → TH → Prop} (E : EN G X (some .int) (QI G Q)) {v1 : Int} {v2 : Int} {v3 : Int} {K57 : Int → TH → Prop} (k57 : ∀ (v4 : Int) (T : TH), K57 v4 T → V G X T 57 [(0, .ref (gad G 13)), (1, .int (zI v1)), (2, .int (zI v2)), (3, .int (zI v3)), (4, .int (zI v4))] []) : ∀ (n : Nat) (v4 : Int) (v5 : Int) (T : TH), h_X9_trips_89 v1 v2 v3 Q K57 n v4 v5 T → V G X T 89 [(0, .ref (gad G 13)), (1, .int (zI v1)), (2, .int (zI v2)), (3, .int (zI v3)), (4, .int (zI v4)), (5, .int (zI v5))] [] := by
  intro n
  induction n with
  | zero =>
    intro v4 v5 T h
    exact h.elim
  | succ n ih =>
    intro v4 v5 T h
    rw [h_X9_trips_89] at h
    refine v_iload C 5 dX9_trips_89 rfl ?_
    refine v_iload C 4 dX9_trips_91 rfl ?_
    obtain ⟨e1, e2, e3, e4⟩ := h
    refine v_icmp_gt (tgt := 191) C dX9_trips_93 (by decide) e1 e2 (fun e5 => ?_) (fun e5 => ?_)
    · have h := e3 e5
      refine v_iinc C 4 dX9_trips_191 rfl (by decide) ?_
      refine v_goto (tgt := 57) C dX9_trips_194 (by decide) ?_
      exact v_sub [1, 2, 3, 4, 0] rfl (k57 _ _ h)
    · have h := e4 e5
      refine v_iload C 5 dX9_trips_96 rfl ?_
      refine v_iload C 4 dX9_trips_98 rfl ?_
      refine v_iconst C dX9_trips_100 ?_
      refine v_ixor C dX9_trips_101 ?_
      refine v_iand C dX9_trips_102 ?_
      obtain ⟨e6, e7, e8⟩ := h
      refine v_if_ne (tgt := 125) C dX9_trips_103 (by decide) e6 (fun e9 => ?_) (fun e9 => ?_)
      · have h := e7 e9
        exact v_sub [0, 1, 2, 3, 4, 5] rfl (t_X9_trips_125 C E k57 ih h)
      · have h := e8 e9
        refine v_aload_n C 0 dX9_trips_106 rfl ?_
        refine v_iload C 5 dX9_trips_107 rfl ?_
        refine v_cVI C kX9 rfl (s_X9_togetherOf G l0 h) mv_X9_togetherOf wd_1130 ⟨by decide, by decide⟩ rfl rfl (Nat.le_of_ble_eq_true rfl) dX9_trips_109 (fun r2 T1 h => ?_)
        refine v_aload_n C 0 dX9_trips_112 rfl ?_
        refine v_getA C kX9 24 rfl rfl wd_840 rfl dX9_trips_113 ?_
        refine v_iload_n C 2 dX9_trips_116 rfl ?_
        obtain ⟨e10, e11, h⟩ := h
        refine v_iald C (ar_of (o := 13) rfl ar_9_24) dX9_trips_117 e10 e11 ?_
        obtain ⟨e12, e13, e14, e15⟩ := h
        refine v_icmp_gt (tgt := 125) C dX9_trips_118 (by decide) e12 e13 (fun e16 => ?_) (fun e16 => ?_)
        · have h := e14 e16
          exact v_sub [0, 1, 2, 3, 4, 5] rfl (t_X9_trips_125 C E k57 ih h)
        · have h := e15 e16
          refine v_iconst C dX9_trips_121 ?_
          refine v_goto (tgt := 126) C dX9_trips_122 (by decide) ?_
          exact v_sub [0, 1, 2, 3, 4, 5] rfl (t_X9_trips_126 C E k57 ih h)
set_option maxRecDepth 100000 in
theorem t_X9_trips_85 {G : GT} {l0 : Launch} {X : CX} (C : CT G l0 X cX9_trips 10 RX9 (rM 3 71)) {Q : Int → TH → Prop} (E : EN G X (some .int) (QI G Q)) {v1 : Int} {v2 : Int} {v3 : Int} {K57 : Int → TH → Prop} (k57 : ∀ (v4 : Int) (T : TH), K57 v4 T → V G X T 57 [(0, .ref (gad G 13)), (1, .int (zI v1)), (2, .int (zI v2)), (3, .int (zI v3)), (4, .int (zI v4))] []) {v4 : Int} {s1 : Int} {s2 : Int} {T : TH} (h : b_X9_trips_85 v1 v2 v3 Q K57 v4 s1 s2 T) : V G X T 85 [(0, .ref (gad G 13)), (1, .int (zI v1)), (2, .int (zI v2)), (3, .int (zI v3)), (4, .int (zI v4))] [.int (zI s2), .int (zI s1), .ref (gaa G 13 34)] := by
  unfold b_X9_trips_85 at h
  obtain ⟨e1, e2, h⟩ := h
  refine v_iast C (ar_of (o := 13) rfl ar_9_34) dX9_trips_85 e1 e2 ?_
  have h := h _ rfl
  refine v_iconst C dX9_trips_86 ?_
  refine v_istore C dX9_trips_87 (by decide) ?_
  obtain ⟨n9, h⟩ := h
  exact v_sub [1, 2, 3, 4, 5, 0] rfl (t_X9_trips_89 C E k57 n9 _ _ _ h)
set_option maxRecDepth 100000 in
theorem t_X9_trips_57 {G : GT} {l0 : Launch} {X : CX} (C : CT G l0 X cX9_trips 10 RX9 (rM 3 71)) {Q : Int → TH → Prop} (E : EN G X (some .int) (QI G Q)) {v1 : Int} {v2 : Int} {v3 : Int} : ∀ (n : Nat) (v4 : Int) (T : TH), h_X9_trips_57 v1 v2 v3 Q n v4 T → V G X T 57 [(0, .ref (gad G 13)), (1, .int (zI v1)), (2, .int (zI v2)), (3, .int (zI v3)), (4, .int (zI v4))] [] := by
  intro n
  induction n with
  | zero =>
    intro v4 T h
    exact h.elim
  | succ n ih =>
    intro v4 T h
    rw [h_X9_trips_57] at h
    refine v_iload C 4 dX9_trips_57 rfl ?_
    refine v_iconst C dX9_trips_59 ?_
    refine v_aload_n C 0 dX9_trips_60 rfl ?_
    refine v_getI C kX9 17 rfl rfl wd_833 rfl dX9_trips_61 ?_
    refine v_ishl C dX9_trips_64 ?_
    obtain ⟨e1, e2, e3, e4⟩ := h
    refine v_icmp_ge (tgt := 197) C dX9_trips_65 (by decide) e1 e2 (fun e5 => ?_) (fun e5 => ?_)
    · have h := e3 e5
      refine v_aload_n C 0 dX9_trips_197 rfl ?_
      refine v_getA C kX9 34 rfl rfl wd_850 rfl dX9_trips_198 ?_
      refine v_iload_n C 1 dX9_trips_201 rfl ?_
      obtain ⟨e6, e7, h⟩ := h
      refine v_iald C (ar_of (o := 13) rfl ar_9_34) dX9_trips_202 e6 e7 ?_
      refine v_istore C dX9_trips_203 (by decide) ?_
      have h := h _ rfl
      refine v_iload C 0 dX9_trips_205 rfl ?_
      refine v_bipush C dX9_trips_207 (by decide) ?_
      obtain ⟨e8, e9, e10⟩ := h
      refine v_icmp_ge (tgt := 217) C dX9_trips_209 (by decide) e8 ⟨by decide, by decide⟩ (fun e11 => ?_) (fun e11 => ?_)
      · have h := e9 e11
        exact v_sub [1, 2, 3, 4, 0] rfl (t_X9_trips_217 C E h)
      · have h := e10 e11
        refine v_iload_n C 4 dX9_trips_212 rfl ?_
        refine v_iconst C dX9_trips_213 ?_
        obtain ⟨e12, e13, e14⟩ := h
        refine v_icmp_ne (tgt := 231) C dX9_trips_214 (by decide) e12 ⟨by decide, by decide⟩ (fun e15 => ?_) (fun e15 => ?_)
        · have h := e13 e15
          refine v_iload_n C 2 dX9_trips_231 rfl ?_
          refine v_istore C dX9_trips_232 (by decide) ?_
          refine v_iconst C dX9_trips_234 ?_
          refine v_istore C dX9_trips_235 (by decide) ?_
          refine v_iconst C dX9_trips_237 ?_
          refine v_istore C dX9_trips_238 (by decide) ?_
          obtain ⟨n9, h⟩ := h
          exact v_sub [4, 5, 6, 7, 3, 2, 1, 0] rfl (t_X9_trips_240 C E n9 _ _ _ _ _ h)
        · have h := e14 e15
          exact v_sub [1, 2, 3, 4, 0] rfl (t_X9_trips_217 C E h)
    · have h := e4 e5
      refine v_aload_n C 0 dX9_trips_68 rfl ?_
      refine v_getA C kX9 34 rfl rfl wd_850 rfl dX9_trips_69 ?_
      refine v_iload C 4 dX9_trips_72 rfl ?_
      refine v_iload C 4 dX9_trips_74 rfl ?_
      obtain ⟨e16, e17, e18⟩ := h
      refine v_if_ne (tgt := 83) C dX9_trips_76 (by decide) e16 (fun e19 => ?_) (fun e19 => ?_)
      · have h := e17 e19
        refine v_bipush C dX9_trips_83 (by decide) ?_
        exact v_sub [0, 1, 2, 3, 4] rfl (t_X9_trips_85 C E ih h)
      · have h := e18 e19
        refine v_iconst C dX9_trips_79 ?_
        refine v_goto (tgt := 85) C dX9_trips_80 (by decide) ?_
        exact v_sub [0, 1, 2, 3, 4] rfl (t_X9_trips_85 C E ih h)
set_option maxRecDepth 100000 in
theorem t_X9_trips_22 {G : GT} {l0 : Launch} {X : CX} (C : CT G l0 X cX9_trips 10 RX9 (rM 3 71)) {Q : Int → TH → Prop} (E : EN G X (some .int) (QI G Q)) {v1 : Int} {v2 : Int} {v3 : Int} : ∀ (n : Nat) (v4 : Int) (T : TH), h_X9_trips_22 v1 v2 v3 Q n v4 T → V G X T 22 [(0, .ref (gad G 13)), (1, .int (zI v1)), (2, .int (zI v2)), (3, .int (zI v3)), (4, .int (zI v4))] [] := by
  intro n
  induction n with
  | zero =>
    intro v4 T h
    exact h.elim
  | succ n ih =>
    intro v4 T h
    rw [h_X9_trips_22] at h
    refine v_iload C 4 dX9_trips_22 rfl ?_
    refine v_aload_n C 0 dX9_trips_24 rfl ?_
    refine v_getI C kX9 17 rfl rfl wd_833 rfl dX9_trips_25 ?_
    obtain ⟨e1, e2, e3, e4⟩ := h
    refine v_icmp_ge (tgt := 54) C dX9_trips_28 (by decide) e1 e2 (fun e5 => ?_) (fun e5 => ?_)
    · have h := e3 e5
      refine v_iconst C dX9_trips_54 ?_
      refine v_istore C dX9_trips_55 (by decide) ?_
      obtain ⟨n9, h⟩ := h
      exact v_sub [1, 2, 3, 4, 0] rfl (t_X9_trips_57 C E n9 _ _ h)
    · have h := e4 e5
      refine v_aload_n C 0 dX9_trips_31 rfl ?_
      refine v_getA C kX9 37 rfl rfl wd_853 rfl dX9_trips_32 ?_
      refine v_iload C 4 dX9_trips_35 rfl ?_
      refine v_aload_n C 0 dX9_trips_37 rfl ?_
      refine v_aload_n C 0 dX9_trips_38 rfl ?_
      refine v_getA C kX9 26 rfl rfl wd_842 rfl dX9_trips_39 ?_
      refine v_iload C 4 dX9_trips_42 rfl ?_
      refine v_cVI C kX9 rfl (s_X9_weightOf G l0 (ar_of (o := 13) rfl ar_9_26) h) mv_X9_weightOf wd_1049 ⟨by decide, by decide⟩ rfl rfl (Nat.le_of_ble_eq_true rfl) dX9_trips_44 (fun r2 T1 h => ?_)
      obtain ⟨e6, e7, h⟩ := h
      refine v_iast C (ar_of (o := 13) rfl ar_9_37) dX9_trips_47 e6 e7 ?_
      have h := h _ rfl
      refine v_iinc C 4 dX9_trips_48 rfl (by decide) ?_
      refine v_goto (tgt := 22) C dX9_trips_51 (by decide) ?_
      exact v_sub [1, 2, 3, 4, 0] rfl (ih _ _ h)
set_option maxRecDepth 100000 in
theorem s_X9_trips (G : GT) (l0 : Launch) {v1 : Int} {v2 : Int} {v3 : Int} {T : TH} {Q : Int → TH → Prop} (h : wp_X9_trips v1 v2 v3 T Q) : MT G l0 yX9_trips cX9_trips 10 (some .int) 3 71 [.ref (gad G 13), .int (zI v1), .int (zI v2), .int (zI v3)] T (QI G Q) := by
  refine mt_of G l0 (by decide) (Nat.le_of_ble_eq_true rfl) (fun X C E => ?_)
  show V G X T 0 [(0, .ref (gad G 13)), (1, .int (zI v1)), (2, .int (zI v2)), (3, .int (zI v3))] []
  unfold wp_X9_trips at h
  refine v_aload_n C 0 dX9_trips_0 rfl ?_
  refine v_iload_n C 1 dX9_trips_1 rfl ?_
  refine v_cVZ C kX9 rfl (s_X9_isSet G l0 h) mv_X9_isSet wd_1122 ⟨by decide, by decide⟩ rfl rfl (Nat.le_of_ble_eq_true rfl) dX9_trips_2 (fun p2 T1 h => ?_)
  obtain ⟨e1, e2⟩ := h
  refine v_ifz_eq (tgt := 16) C dX9_trips_5 (by decide) (fun e3 => ?_) (fun e3 => ?_)
  · have h := e1 e3
    refine v_ldc (n := -1000000001) C dX9_trips_16 wd_1024 (by decide) ?_
    exact v_iret C E dX9_trips_18 h
  · have h := e2 e3
    refine v_aload_n C 0 dX9_trips_8 rfl ?_
    refine v_iload_n C 2 dX9_trips_9 rfl ?_
    refine v_cVZ C kX9 rfl (s_X9_isBridge G l0 h) mv_X9_isBridge wd_1065 ⟨by decide, by decide⟩ rfl rfl (Nat.le_of_ble_eq_true rfl) dX9_trips_10 (fun p4 T3 h => ?_)
    obtain ⟨e4, e5⟩ := h
    refine v_ifz_ne (tgt := 19) C dX9_trips_13 (by decide) (fun e6 => ?_) (fun e6 => ?_)
    · have h := e4 e6
      refine v_iconst C dX9_trips_19 ?_
      refine v_istore C dX9_trips_20 (by decide) ?_
      obtain ⟨n9, h⟩ := h
      exact v_sub [1, 2, 3, 4, 0] rfl (t_X9_trips_22 C E n9 _ _ h)
    · have h := e5 e6
      refine v_ldc (n := -1000000001) C dX9_trips_16 wd_1024 (by decide) ?_
      exact v_iret C E dX9_trips_18 h
def b_X9_layWays_227 (v1 : Int) (v2 : Int) (v3 : Int) (Q : TH → Prop) (K37 : Int → TH → Prop) (v4 : Int) (T : TH) : Prop :=
  K37 (v4 + 1) T
def h_X9_layWays_199 (v1 : Int) (v2 : Int) (v3 : Int) (Q : TH → Prop) (K37 : Int → TH → Prop) : Nat → Int → Int → TH → Prop
  | 0, _, _, _ => False
  | n + 1, v4, v5, T => zR v5 ∧ (1200 ≤ v5 → (b_X9_layWays_227 v1 v2 v3 Q K37 v4 T)) ∧ (¬ (1200 ≤ v5) → (0 ≤ v5 ∧ v5 < 1200 ∧ 0 ≤ v5 ∧ v5 < 1200 ∧ ∀ T1 : TH, T1 = up T 13 35 v5 (T 13 36 v5) → (h_X9_layWays_199 v1 v2 v3 Q K37 n) v4 (v5 + 1) T1))
def b_X9_layWays_190 (v1 : Int) (v2 : Int) (v3 : Int) (Q : TH → Prop) (K37 : Int → TH → Prop) (K87 : Int → Int → TH → Prop) (v4 : Int) (v5 : Int) (T : TH) : Prop :=
  K87 v4 (v5 + 1) T
def b_X9_layWays_184 (v1 : Int) (v2 : Int) (v3 : Int) (Q : TH → Prop) (K37 : Int → TH → Prop) (K87 : Int → Int → TH → Prop) (K132 : Int → Int → Int → Int → TH → Prop) (v4 : Int) (v5 : Int) (v6 : Int) (v7 : Int) (T : TH) : Prop :=
  K132 v4 v5 v6 (v7 + 1) T
def b_X9_layWays_152 (v1 : Int) (v2 : Int) (v3 : Int) (Q : TH → Prop) (K37 : Int → TH → Prop) (K87 : Int → Int → TH → Prop) (K132 : Int → Int → Int → Int → TH → Prop) (v4 : Int) (v5 : Int) (v6 : Int) (v7 : Int) (T : TH) : Prop :=
  0 ≤ v7 ∧ v7 < 1200 ∧ zRL (T 13 35 v7) ∧ zRL 0 ∧ zR (zlc (T 13 35 v7) 0) ∧ ((zlc (T 13 35 v7) 0) ≤ 0 → (b_X9_layWays_184 v1 v2 v3 Q K37 K87 K132 v4 v5 v6 v7 T)) ∧ (¬ ((zlc (T 13 35 v7) 0) ≤ 0) → (0 ≤ (v7 + v6) ∧ (v7 + v6) < 1200 ∧ 0 ≤ v7 ∧ v7 < 1200 ∧ 0 ≤ (v7 + v6) ∧ (v7 + v6) < 1200 ∧ ∀ T1 : TH, T1 = up T 13 36 (v7 + v6) ((T 13 36 (v7 + v6)) + (T 13 35 v7)) → b_X9_layWays_184 v1 v2 v3 Q K37 K87 K132 v4 v5 v6 v7 T1))
def h_X9_layWays_132 (v1 : Int) (v2 : Int) (v3 : Int) (Q : TH → Prop) (K37 : Int → TH → Prop) (K87 : Int → Int → TH → Prop) : Nat → Int → Int → Int → Int → TH → Prop
  | 0, _, _, _, _, _ => False
  | n + 1, v4, v5, v6, v7, T => zR v7 ∧ (1200 ≤ v7 → (b_X9_layWays_190 v1 v2 v3 Q K37 K87 v4 v5 T)) ∧ (¬ (1200 ≤ v7) → (zR v4 ∧ zR v2 ∧ (¬ v4 = v2 → (b_X9_layWays_152 v1 v2 v3 Q K37 K87 (h_X9_layWays_132 v1 v2 v3 Q K37 K87 n) v4 v5 v6 v7 T)) ∧ (v4 = v2 → (zR v5 ∧ zR v3 ∧ (¬ v5 = v3 → (b_X9_layWays_190 v1 v2 v3 Q K37 K87 v4 v5 T)) ∧ (v5 = v3 → (b_X9_layWays_152 v1 v2 v3 Q K37 K87 (h_X9_layWays_132 v1 v2 v3 Q K37 K87 n) v4 v5 v6 v7 T))))))
def b_X9_layWays_127 (v1 : Int) (v2 : Int) (v3 : Int) (Q : TH → Prop) (K37 : Int → TH → Prop) (K87 : Int → Int → TH → Prop) (v4 : Int) (v5 : Int) (s0 : Int) (T : TH) : Prop :=
  (∃ m9 : Nat, h_X9_layWays_132 v1 v2 v3 Q K37 K87 m9 v4 v5 s0 0 T)
def h_X9_layWays_87 (v1 : Int) (v2 : Int) (v3 : Int) (Q : TH → Prop) (K37 : Int → TH → Prop) : Nat → Int → Int → TH → Prop
  | 0, _, _, _ => False
  | n + 1, v4, v5, T => zR v5 ∧ zR (T 13 17 0) ∧ ((T 13 17 0) ≤ v5 → ((∃ m9 : Nat, h_X9_layWays_199 v1 v2 v3 Q K37 m9 v4 0 T))) ∧ (¬ ((T 13 17 0) ≤ v5) → (wp_X9_isLie v4 T (fun p2 T1 => (p2 = false → (wp_X9_gramsOf v4 T1 (fun r4 T3 => b_X9_layWays_127 v1 v2 v3 Q K37 (h_X9_layWays_87 v1 v2 v3 Q K37 n) v4 v5 (r4 * v5) T3))) ∧ (p2 = true → (wp_X9_gramsOf v4 T1 (fun r6 T5 => b_X9_layWays_127 v1 v2 v3 Q K37 (h_X9_layWays_87 v1 v2 v3 Q K37 n) v4 v5 ((-r6) * v5) T5))))))
def h_X9_layWays_62 (v1 : Int) (v2 : Int) (v3 : Int) (Q : TH → Prop) (K37 : Int → TH → Prop) : Nat → Int → Int → TH → Prop
  | 0, _, _, _ => False
  | n + 1, v4, v5, T => zR v5 ∧ (1200 ≤ v5 → ((∃ m9 : Nat, h_X9_layWays_87 v1 v2 v3 Q K37 m9 v4 0 T))) ∧ (¬ (1200 ≤ v5) → (0 ≤ v5 ∧ v5 < 1200 ∧ ∀ T1 : TH, T1 = up T 13 36 v5 0 → (h_X9_layWays_62 v1 v2 v3 Q K37 n) v4 (v5 + 1) T1))
def h_X9_layWays_37 (v1 : Int) (v2 : Int) (v3 : Int) (Q : TH → Prop) : Nat → Int → TH → Prop
  | 0, _, _ => False
  | n + 1, v4, T => zR v4 ∧ zR (T 13 18 0) ∧ ((T 13 18 0) ≤ v4 → (Q T)) ∧ (¬ ((T 13 18 0) ≤ v4) → (wp_X9_personOf v4 T (fun r2 T1 => zR r2 ∧ zR v1 ∧ (r2 = v1 → ((∃ m9 : Nat, h_X9_layWays_62 v1 v2 v3 Q (h_X9_layWays_37 v1 v2 v3 Q n) m9 v4 0 T1))) ∧ (¬ (r2 = v1) → (b_X9_layWays_227 v1 v2 v3 Q (h_X9_layWays_37 v1 v2 v3 Q n) v4 T1)))))
def h_X9_layWays_3 (v1 : Int) (v2 : Int) (v3 : Int) (Q : TH → Prop) : Nat → Int → TH → Prop
  | 0, _, _ => False
  | n + 1, v4, T => zR v4 ∧ (1200 ≤ v4 → (∀ T1 : TH, T1 = up T 13 35 600 1 → (∃ m9 : Nat, h_X9_layWays_37 v1 v2 v3 Q m9 0 T1))) ∧ (¬ (1200 ≤ v4) → (0 ≤ v4 ∧ v4 < 1200 ∧ ∀ T2 : TH, T2 = up T 13 35 v4 0 → (h_X9_layWays_3 v1 v2 v3 Q n) (v4 + 1) T2))
def wp_X9_layWays (v1 : Int) (v2 : Int) (v3 : Int) (T : TH) (Q : TH → Prop) : Prop :=
  (∃ m9 : Nat, h_X9_layWays_3 v1 v2 v3 Q m9 0 T)
set_option maxRecDepth 100000 in
theorem t_X9_layWays_227 {G : GT} {l0 : Launch} {X : CX} (C : CT G l0 X cX9_layWays 8 RX9 (rM 1 21)) {Q : TH → Prop} (E : EN G X none (QV G Q)) {v1 : Int} {v2 : Int} {v3 : Int} {K37 : Int → TH → Prop} (k37 : ∀ (v4 : Int) (T : TH), K37 v4 T → V G X T 37 [(0, .ref (gad G 13)), (1, .int (zI v1)), (2, .int (zI v2)), (3, .int (zI v3)), (4, .int (zI v4))] []) {v4 : Int} {T : TH} (h : b_X9_layWays_227 v1 v2 v3 Q K37 v4 T) : V G X T 227 [(0, .ref (gad G 13)), (1, .int (zI v1)), (2, .int (zI v2)), (3, .int (zI v3)), (4, .int (zI v4))] [] := by
  unfold b_X9_layWays_227 at h
  refine v_iinc C 4 dX9_layWays_227 rfl (by decide) ?_
  refine v_goto (tgt := 37) C dX9_layWays_230 (by decide) ?_
  exact v_sub [1, 2, 3, 4, 0] rfl (k37 _ _ h)
set_option maxRecDepth 100000 in
theorem t_X9_layWays_199 {G : GT} {l0 : Launch} {X : CX} (C : CT G l0 X cX9_layWays 8 RX9 (rM 1 21)) {Q : TH → Prop} (E : EN G X none (QV G Q)) {v1 : Int} {v2 : Int} {v3 : Int} {K37 : Int → TH → Prop} (k37 : ∀ (v4 : Int) (T : TH), K37 v4 T → V G X T 37 [(0, .ref (gad G 13)), (1, .int (zI v1)), (2, .int (zI v2)), (3, .int (zI v3)), (4, .int (zI v4))] []) : ∀ (n : Nat) (v4 : Int) (v5 : Int) (T : TH), h_X9_layWays_199 v1 v2 v3 Q K37 n v4 v5 T → V G X T 199 [(0, .ref (gad G 13)), (1, .int (zI v1)), (2, .int (zI v2)), (3, .int (zI v3)), (4, .int (zI v4)), (5, .int (zI v5))] [] := by
  intro n
  induction n with
  | zero =>
    intro v4 v5 T h
    exact h.elim
  | succ n ih =>
    intro v4 v5 T h
    rw [h_X9_layWays_199] at h
    refine v_iload C 5 dX9_layWays_199 rfl ?_
    refine v_sipush C dX9_layWays_201 (by decide) ?_
    obtain ⟨e1, e2, e3⟩ := h
    refine v_icmp_ge (tgt := 227) C dX9_layWays_204 (by decide) e1 ⟨by decide, by decide⟩ (fun e4 => ?_) (fun e4 => ?_)
    · have h := e2 e4
      exact v_sub [0, 1, 2, 3, 4] rfl (t_X9_layWays_227 C E k37 h)
    · have h := e3 e4
      refine v_aload_n C 0 dX9_layWays_207 rfl ?_
      refine v_getA C kX9 35 rfl rfl wd_851 rfl dX9_layWays_208 ?_
      refine v_iload C 5 dX9_layWays_211 rfl ?_
      refine v_aload_n C 0 dX9_layWays_213 rfl ?_
      refine v_getA C kX9 36 rfl rfl wd_852 rfl dX9_layWays_214 ?_
      refine v_iload C 5 dX9_layWays_217 rfl ?_
      obtain ⟨e5, e6, h⟩ := h
      refine v_lald C (ar_of (o := 13) rfl ar_9_36) dX9_layWays_219 e5 e6 ?_
      obtain ⟨e7, e8, h⟩ := h
      refine v_last C (ar_of (o := 13) rfl ar_9_35) dX9_layWays_220 e7 e8 ?_
      have h := h _ rfl
      refine v_iinc C 5 dX9_layWays_221 rfl (by decide) ?_
      refine v_goto (tgt := 199) C dX9_layWays_224 (by decide) ?_
      exact v_sub [1, 2, 3, 4, 5, 0] rfl (ih _ _ _ h)
set_option maxRecDepth 100000 in
theorem t_X9_layWays_190 {G : GT} {l0 : Launch} {X : CX} (C : CT G l0 X cX9_layWays 8 RX9 (rM 1 21)) {Q : TH → Prop} (E : EN G X none (QV G Q)) {v1 : Int} {v2 : Int} {v3 : Int} {K37 : Int → TH → Prop} {K87 : Int → Int → TH → Prop} (k37 : ∀ (v4 : Int) (T : TH), K37 v4 T → V G X T 37 [(0, .ref (gad G 13)), (1, .int (zI v1)), (2, .int (zI v2)), (3, .int (zI v3)), (4, .int (zI v4))] []) (k87 : ∀ (v4 : Int) (v5 : Int) (T : TH), K87 v4 v5 T → V G X T 87 [(0, .ref (gad G 13)), (1, .int (zI v1)), (2, .int (zI v2)), (3, .int (zI v3)), (4, .int (zI v4)), (5, .int (zI v5))] []) {v4 : Int} {v5 : Int} {T : TH} (h : b_X9_layWays_190 v1 v2 v3 Q K37 K87 v4 v5 T) : V G X T 190 [(0, .ref (gad G 13)), (1, .int (zI v1)), (2, .int (zI v2)), (3, .int (zI v3)), (4, .int (zI v4)), (5, .int (zI v5))] [] := by
  unfold b_X9_layWays_190 at h
  refine v_iinc C 5 dX9_layWays_190 rfl (by decide) ?_
  refine v_goto (tgt := 87) C dX9_layWays_193 (by decide) ?_
  exact v_sub [1, 2, 3, 4, 5, 0] rfl (k87 _ _ _ h)
set_option maxRecDepth 100000 in
theorem t_X9_layWays_184 {G : GT} {l0 : Launch} {X : CX} (C : CT G l0 X cX9_layWays 8 RX9 (rM 1 21)) {Q : TH → Prop} (E : EN G X none (QV G Q)) {v1 : Int} {v2 : Int} {v3 : Int} {K37 : Int → TH → Prop} {K87 : Int → Int → TH → Prop} {K132 : Int → Int → Int → Int → TH → Prop} (k37 : ∀ (v4 : Int) (T : TH), K37 v4 T → V G X T 37 [(0, .ref (gad G 13)), (1, .int (zI v1)), (2, .int (zI v2)), (3, .int (zI v3)), (4, .int (zI v4))] []) (k87 : ∀ (v4 : Int) (v5 : Int) (T : TH), K87 v4 v5 T → V G X T 87 [(0, .ref (gad G 13)), (1, .int (zI v1)), (2, .int (zI v2)), (3, .int (zI v3)), (4, .int (zI v4)), (5, .int (zI v5))] []) (k132 : ∀ (v4 : Int) (v5 : Int) (v6 : Int) (v7 : Int) (T : TH), K132 v4 v5 v6 v7 T → V G X T 132 [(0, .ref (gad G 13)), (1, .int (zI v1)), (2, .int (zI v2)), (3, .int (zI v3)), (4, .int (zI v4)), (5, .int (zI v5)), (6, .int (zI v6)), (7, .int (zI v7))] []) {v4 : Int} {v5 : Int} {v6 : Int} {v7 : Int} {T : TH} (h : b_X9_layWays_184 v1 v2 v3 Q K37 K87 K132 v4 v5 v6 v7 T) : V G X T 184 [(0, .ref (gad G 13)), (1, .int (zI v1)), (2, .int (zI v2)), (3, .int (zI v3)), (4, .int (zI v4)), (5, .int (zI v5)), (6, .int (zI v6)), (7, .int (zI v7))] [] := by
  unfold b_X9_layWays_184 at h
  refine v_iinc C 7 dX9_layWays_184 rfl (by decide) ?_
  refine v_goto (tgt := 132) C dX9_layWays_187 (by decide) ?_
  exact v_sub [1, 2, 3, 4, 5, 6, 7, 0] rfl (k132 _ _ _ _ _ h)
set_option maxRecDepth 100000 in
theorem t_X9_layWays_152 {G : GT} {l0 : Launch} {X : CX} (C : CT G l0 X cX9_layWays 8 RX9 (rM 1 21)) {Q : TH → Prop} (E : EN G X none (QV G Q)) {v1 : Int} {v2 : Int} {v3 : Int} {K37 : Int → TH → Prop} {K87 : Int → Int → TH → Prop} {K132 : Int → Int → Int → Int → TH → Prop} (k37 : ∀ (v4 : Int) (T : TH), K37 v4 T → V G X T 37 [(0, .ref (gad G 13)), (1, .int (zI v1)), (2, .int (zI v2)), (3, .int (zI v3)), (4, .int (zI v4))] []) (k87 : ∀ (v4 : Int) (v5 : Int) (T : TH), K87 v4 v5 T → V G X T 87 [(0, .ref (gad G 13)), (1, .int (zI v1)), (2, .int (zI v2)), (3, .int (zI v3)), (4, .int (zI v4)), (5, .int (zI v5))] []) (k132 : ∀ (v4 : Int) (v5 : Int) (v6 : Int) (v7 : Int) (T : TH), K132 v4 v5 v6 v7 T → V G X T 132 [(0, .ref (gad G 13)), (1, .int (zI v1)), (2, .int (zI v2)), (3, .int (zI v3)), (4, .int (zI v4)), (5, .int (zI v5)), (6, .int (zI v6)), (7, .int (zI v7))] []) {v4 : Int} {v5 : Int} {v6 : Int} {v7 : Int} {T : TH} (h : b_X9_layWays_152 v1 v2 v3 Q K37 K87 K132 v4 v5 v6 v7 T) : V G X T 152 [(0, .ref (gad G 13)), (1, .int (zI v1)), (2, .int (zI v2)), (3, .int (zI v3)), (4, .int (zI v4)), (5, .int (zI v5)), (6, .int (zI v6)), (7, .int (zI v7))] [] := by
  unfold b_X9_layWays_152 at h
  refine v_aload_n C 0 dX9_layWays_152 rfl ?_
  refine v_getA C kX9 35 rfl rfl wd_851 rfl dX9_layWays_153 ?_
  refine v_iload C 7 dX9_layWays_156 rfl ?_
  obtain ⟨e1, e2, h⟩ := h
  refine v_lald C (ar_of (o := 13) rfl ar_9_35) dX9_layWays_158 e1 e2 ?_
  refine v_lconst (n := 0) C dX9_layWays_159 (by decide) ?_
  obtain ⟨e3, e4, h⟩ := h
  refine v_lcmp C dX9_layWays_160 e3 e4 ?_
  obtain ⟨e5, e6, e7⟩ := h
  refine v_if_le (tgt := 184) C dX9_layWays_161 (by decide) e5 (fun e8 => ?_) (fun e8 => ?_)
  · have h := e6 e8
    exact v_sub [0, 1, 2, 3, 4, 5, 6, 7] rfl (t_X9_layWays_184 C E k37 k87 k132 h)
  · have h := e7 e8
    refine v_aload_n C 0 dX9_layWays_164 rfl ?_
    refine v_getA C kX9 36 rfl rfl wd_852 rfl dX9_layWays_165 ?_
    refine v_iload C 7 dX9_layWays_168 rfl ?_
    refine v_iload C 6 dX9_layWays_170 rfl ?_
    refine v_iadd C dX9_layWays_172 ?_
    refine v_dup2 C dX9_layWays_173 rfl rfl ?_
    obtain ⟨e9, e10, h⟩ := h
    refine v_lald C (ar_of (o := 13) rfl ar_9_36) dX9_layWays_174 e9 e10 ?_
    refine v_aload_n C 0 dX9_layWays_175 rfl ?_
    refine v_getA C kX9 35 rfl rfl wd_851 rfl dX9_layWays_176 ?_
    refine v_iload C 7 dX9_layWays_179 rfl ?_
    obtain ⟨e11, e12, h⟩ := h
    refine v_lald C (ar_of (o := 13) rfl ar_9_35) dX9_layWays_181 e11 e12 ?_
    refine v_ladd C dX9_layWays_182 ?_
    obtain ⟨e13, e14, h⟩ := h
    refine v_last C (ar_of (o := 13) rfl ar_9_36) dX9_layWays_183 e13 e14 ?_
    have h := h _ rfl
    exact v_sub [0, 1, 2, 3, 4, 5, 6, 7] rfl (t_X9_layWays_184 C E k37 k87 k132 h)
set_option maxRecDepth 100000 in
theorem t_X9_layWays_132 {G : GT} {l0 : Launch} {X : CX} (C : CT G l0 X cX9_layWays 8 RX9 (rM 1 21)) {Q : TH → Prop} (E : EN G X none (QV G Q)) {v1 : Int} {v2 : Int} {v3 : Int} {K37 : Int → TH → Prop} {K87 : Int → Int → TH → Prop} (k37 : ∀ (v4 : Int) (T : TH), K37 v4 T → V G X T 37 [(0, .ref (gad G 13)), (1, .int (zI v1)), (2, .int (zI v2)), (3, .int (zI v3)), (4, .int (zI v4))] []) (k87 : ∀ (v4 : Int) (v5 : Int) (T : TH), K87 v4 v5 T → V G X T 87 [(0, .ref (gad G 13)), (1, .int (zI v1)), (2, .int (zI v2)), (3, .int (zI v3)), (4, .int (zI v4)), (5, .int (zI v5))] []) : ∀ (n : Nat) (v4 : Int) (v5 : Int) (v6 : Int) (v7 : Int) (T : TH), h_X9_layWays_132 v1 v2 v3 Q K37 K87 n v4 v5 v6 v7 T → V G X T 132 [(0, .ref (gad G 13)), (1, .int (zI v1)), (2, .int (zI v2)), (3, .int (zI v3)), (4, .int (zI v4)), (5, .int (zI v5)), (6, .int (zI v6)), (7, .int (zI v7))] [] := by
  intro n
  induction n with
  | zero =>
    intro v4 v5 v6 v7 T h
    exact h.elim
  | succ n ih =>
    intro v4 v5 v6 v7 T h
    rw [h_X9_layWays_132] at h
    refine v_iload C 7 dX9_layWays_132 rfl ?_
    refine v_sipush C dX9_layWays_134 (by decide) ?_
    obtain ⟨e1, e2, e3⟩ := h
    refine v_icmp_ge (tgt := 190) C dX9_layWays_137 (by decide) e1 ⟨by decide, by decide⟩ (fun e4 => ?_) (fun e4 => ?_)
    · have h := e2 e4
      exact v_sub [0, 1, 2, 3, 4, 5] rfl (t_X9_layWays_190 C E k37 k87 h)
    · have h := e3 e4
      refine v_iload C 4 dX9_layWays_140 rfl ?_
      refine v_iload_n C 2 dX9_layWays_142 rfl ?_
      obtain ⟨e5, e6, e7, e8⟩ := h
      refine v_icmp_ne (tgt := 152) C dX9_layWays_143 (by decide) e5 e6 (fun e9 => ?_) (fun e9 => ?_)
      · have h := e7 e9
        exact v_sub [0, 1, 2, 3, 4, 5, 6, 7] rfl (t_X9_layWays_152 C E k37 k87 ih h)
      · have h := e8 e9
        refine v_iload C 5 dX9_layWays_146 rfl ?_
        refine v_iload_n C 3 dX9_layWays_148 rfl ?_
        obtain ⟨e10, e11, e12, e13⟩ := h
        refine v_icmp_ne (tgt := 190) C dX9_layWays_149 (by decide) e10 e11 (fun e14 => ?_) (fun e14 => ?_)
        · have h := e12 e14
          exact v_sub [0, 1, 2, 3, 4, 5] rfl (t_X9_layWays_190 C E k37 k87 h)
        · have h := e13 e14
          exact v_sub [0, 1, 2, 3, 4, 5, 6, 7] rfl (t_X9_layWays_152 C E k37 k87 ih h)
set_option maxRecDepth 100000 in
theorem t_X9_layWays_127 {G : GT} {l0 : Launch} {X : CX} (C : CT G l0 X cX9_layWays 8 RX9 (rM 1 21)) {Q : TH → Prop} (E : EN G X none (QV G Q)) {v1 : Int} {v2 : Int} {v3 : Int} {K37 : Int → TH → Prop} {K87 : Int → Int → TH → Prop} (k37 : ∀ (v4 : Int) (T : TH), K37 v4 T → V G X T 37 [(0, .ref (gad G 13)), (1, .int (zI v1)), (2, .int (zI v2)), (3, .int (zI v3)), (4, .int (zI v4))] []) (k87 : ∀ (v4 : Int) (v5 : Int) (T : TH), K87 v4 v5 T → V G X T 87 [(0, .ref (gad G 13)), (1, .int (zI v1)), (2, .int (zI v2)), (3, .int (zI v3)), (4, .int (zI v4)), (5, .int (zI v5))] []) {v4 : Int} {v5 : Int} {s0 : Int} {T : TH} (h : b_X9_layWays_127 v1 v2 v3 Q K37 K87 v4 v5 s0 T) : V G X T 127 [(0, .ref (gad G 13)), (1, .int (zI v1)), (2, .int (zI v2)), (3, .int (zI v3)), (4, .int (zI v4)), (5, .int (zI v5))] [.int (zI s0)] := by
  unfold b_X9_layWays_127 at h
  refine v_istore C dX9_layWays_127 (by decide) ?_
  refine v_iconst C dX9_layWays_129 ?_
  refine v_istore C dX9_layWays_130 (by decide) ?_
  obtain ⟨n9, h⟩ := h
  exact v_sub [2, 3, 4, 5, 6, 7, 1, 0] rfl (t_X9_layWays_132 C E k37 k87 n9 _ _ _ _ _ h)
set_option maxRecDepth 100000 in
theorem t_X9_layWays_87 {G : GT} {l0 : Launch} {X : CX} (C : CT G l0 X cX9_layWays 8 RX9 (rM 1 21)) {Q : TH → Prop} (E : EN G X none (QV G Q)) {v1 : Int} {v2 : Int} {v3 : Int} {K37 : Int → TH → Prop} (k37 : ∀ (v4 : Int) (T : TH), K37 v4 T → V G X T 37 [(0, .ref (gad G 13)), (1, .int (zI v1)), (2, .int (zI v2)), (3, .int (zI v3)), (4, .int (zI v4))] []) : ∀ (n : Nat) (v4 : Int) (v5 : Int) (T : TH), h_X9_layWays_87 v1 v2 v3 Q K37 n v4 v5 T → V G X T 87 [(0, .ref (gad G 13)), (1, .int (zI v1)), (2, .int (zI v2)), (3, .int (zI v3)), (4, .int (zI v4)), (5, .int (zI v5))] [] := by
  intro n
  induction n with
  | zero =>
    intro v4 v5 T h
    exact h.elim
  | succ n ih =>
    intro v4 v5 T h
    rw [h_X9_layWays_87] at h
    refine v_iload C 5 dX9_layWays_87 rfl ?_
    refine v_aload_n C 0 dX9_layWays_89 rfl ?_
    refine v_getI C kX9 17 rfl rfl wd_833 rfl dX9_layWays_90 ?_
    obtain ⟨e1, e2, e3, e4⟩ := h
    refine v_icmp_ge (tgt := 196) C dX9_layWays_93 (by decide) e1 e2 (fun e5 => ?_) (fun e5 => ?_)
    · have h := e3 e5
      refine v_iconst C dX9_layWays_196 ?_
      refine v_istore C dX9_layWays_197 (by decide) ?_
      obtain ⟨n9, h⟩ := h
      exact v_sub [1, 2, 3, 4, 5, 0] rfl (t_X9_layWays_199 C E k37 n9 _ _ _ h)
    · have h := e4 e5
      refine v_aload_n C 0 dX9_layWays_96 rfl ?_
      refine v_iload C 4 dX9_layWays_97 rfl ?_
      refine v_cVZ C kX9 rfl (s_X9_isLie G l0 h) mv_X9_isLie wd_1057 ⟨by decide, by decide⟩ rfl rfl (Nat.le_of_ble_eq_true rfl) dX9_layWays_99 (fun p2 T1 h => ?_)
      obtain ⟨e6, e7⟩ := h
      refine v_ifz_eq (tgt := 118) C dX9_layWays_102 (by decide) (fun e8 => ?_) (fun e8 => ?_)
      · have h := e6 e8
        refine v_aload_n C 0 dX9_layWays_118 rfl ?_
        refine v_iload C 4 dX9_layWays_119 rfl ?_
        refine v_cVI C kX9 rfl (s_X9_gramsOf G l0 h) mv_X9_gramsOf wd_1053 ⟨by decide, by decide⟩ rfl rfl (Nat.le_of_ble_eq_true rfl) dX9_layWays_121 (fun r4 T3 h => ?_)
        refine v_iload C 5 dX9_layWays_124 rfl ?_
        refine v_imul C dX9_layWays_126 ?_
        exact v_sub [0, 1, 2, 3, 4, 5] rfl (t_X9_layWays_127 C E k37 ih h)
      · have h := e7 e8
        refine v_aload_n C 0 dX9_layWays_105 rfl ?_
        refine v_iload C 4 dX9_layWays_106 rfl ?_
        refine v_cVI C kX9 rfl (s_X9_gramsOf G l0 h) mv_X9_gramsOf wd_1053 ⟨by decide, by decide⟩ rfl rfl (Nat.le_of_ble_eq_true rfl) dX9_layWays_108 (fun r6 T5 h => ?_)
        refine v_ineg C dX9_layWays_111 ?_
        refine v_iload C 5 dX9_layWays_112 rfl ?_
        refine v_imul C dX9_layWays_114 ?_
        refine v_goto (tgt := 127) C dX9_layWays_115 (by decide) ?_
        exact v_sub [0, 1, 2, 3, 4, 5] rfl (t_X9_layWays_127 C E k37 ih h)
set_option maxRecDepth 100000 in
theorem t_X9_layWays_62 {G : GT} {l0 : Launch} {X : CX} (C : CT G l0 X cX9_layWays 8 RX9 (rM 1 21)) {Q : TH → Prop} (E : EN G X none (QV G Q)) {v1 : Int} {v2 : Int} {v3 : Int} {K37 : Int → TH → Prop} (k37 : ∀ (v4 : Int) (T : TH), K37 v4 T → V G X T 37 [(0, .ref (gad G 13)), (1, .int (zI v1)), (2, .int (zI v2)), (3, .int (zI v3)), (4, .int (zI v4))] []) : ∀ (n : Nat) (v4 : Int) (v5 : Int) (T : TH), h_X9_layWays_62 v1 v2 v3 Q K37 n v4 v5 T → V G X T 62 [(0, .ref (gad G 13)), (1, .int (zI v1)), (2, .int (zI v2)), (3, .int (zI v3)), (4, .int (zI v4)), (5, .int (zI v5))] [] := by
  intro n
  induction n with
  | zero =>
    intro v4 v5 T h
    exact h.elim
  | succ n ih =>
    intro v4 v5 T h
    rw [h_X9_layWays_62] at h
    refine v_iload C 5 dX9_layWays_62 rfl ?_
    refine v_sipush C dX9_layWays_64 (by decide) ?_
    obtain ⟨e1, e2, e3⟩ := h
    refine v_icmp_ge (tgt := 84) C dX9_layWays_67 (by decide) e1 ⟨by decide, by decide⟩ (fun e4 => ?_) (fun e4 => ?_)
    · have h := e2 e4
      refine v_iconst C dX9_layWays_84 ?_
      refine v_istore C dX9_layWays_85 (by decide) ?_
      obtain ⟨n9, h⟩ := h
      exact v_sub [1, 2, 3, 4, 5, 0] rfl (t_X9_layWays_87 C E k37 n9 _ _ _ h)
    · have h := e3 e4
      refine v_aload_n C 0 dX9_layWays_70 rfl ?_
      refine v_getA C kX9 36 rfl rfl wd_852 rfl dX9_layWays_71 ?_
      refine v_iload C 5 dX9_layWays_74 rfl ?_
      refine v_lconst (n := 0) C dX9_layWays_76 (by decide) ?_
      obtain ⟨e5, e6, h⟩ := h
      refine v_last C (ar_of (o := 13) rfl ar_9_36) dX9_layWays_77 e5 e6 ?_
      have h := h _ rfl
      refine v_iinc C 5 dX9_layWays_78 rfl (by decide) ?_
      refine v_goto (tgt := 62) C dX9_layWays_81 (by decide) ?_
      exact v_sub [1, 2, 3, 4, 5, 0] rfl (ih _ _ _ h)
set_option maxRecDepth 100000 in
theorem t_X9_layWays_37 {G : GT} {l0 : Launch} {X : CX} (C : CT G l0 X cX9_layWays 8 RX9 (rM 1 21)) {Q : TH → Prop} (E : EN G X none (QV G Q)) {v1 : Int} {v2 : Int} {v3 : Int} : ∀ (n : Nat) (v4 : Int) (T : TH), h_X9_layWays_37 v1 v2 v3 Q n v4 T → V G X T 37 [(0, .ref (gad G 13)), (1, .int (zI v1)), (2, .int (zI v2)), (3, .int (zI v3)), (4, .int (zI v4))] [] := by
  intro n
  induction n with
  | zero =>
    intro v4 T h
    exact h.elim
  | succ n ih =>
    intro v4 T h
    rw [h_X9_layWays_37] at h
    refine v_iload C 4 dX9_layWays_37 rfl ?_
    refine v_aload_n C 0 dX9_layWays_39 rfl ?_
    refine v_getI C kX9 18 rfl rfl wd_834 rfl dX9_layWays_40 ?_
    obtain ⟨e1, e2, e3, e4⟩ := h
    refine v_icmp_ge (tgt := 233) C dX9_layWays_43 (by decide) e1 e2 (fun e5 => ?_) (fun e5 => ?_)
    · have h := e3 e5
      exact v_vret C E dX9_layWays_233 h
    · have h := e4 e5
      refine v_aload_n C 0 dX9_layWays_46 rfl ?_
      refine v_iload C 4 dX9_layWays_47 rfl ?_
      refine v_cVI C kX9 rfl (s_X9_personOf G l0 h) mv_X9_personOf wd_1009 ⟨by decide, by decide⟩ rfl rfl (Nat.le_of_ble_eq_true rfl) dX9_layWays_49 (fun r2 T1 h => ?_)
      refine v_iload_n C 1 dX9_layWays_52 rfl ?_
      obtain ⟨e6, e7, e8, e9⟩ := h
      refine v_icmp_eq (tgt := 59) C dX9_layWays_53 (by decide) e6 e7 (fun e10 => ?_) (fun e10 => ?_)
      · have h := e8 e10
        refine v_iconst C dX9_layWays_59 ?_
        refine v_istore C dX9_layWays_60 (by decide) ?_
        obtain ⟨n9, h⟩ := h
        exact v_sub [1, 2, 3, 4, 5, 0] rfl (t_X9_layWays_62 C E ih n9 _ _ _ h)
      · have h := e9 e10
        refine v_goto (tgt := 227) C dX9_layWays_56 (by decide) ?_
        exact v_sub [0, 1, 2, 3, 4] rfl (t_X9_layWays_227 C E ih h)
set_option maxRecDepth 100000 in
theorem t_X9_layWays_3 {G : GT} {l0 : Launch} {X : CX} (C : CT G l0 X cX9_layWays 8 RX9 (rM 1 21)) {Q : TH → Prop} (E : EN G X none (QV G Q)) {v1 : Int} {v2 : Int} {v3 : Int} : ∀ (n : Nat) (v4 : Int) (T : TH), h_X9_layWays_3 v1 v2 v3 Q n v4 T → V G X T 3 [(0, .ref (gad G 13)), (1, .int (zI v1)), (2, .int (zI v2)), (3, .int (zI v3)), (4, .int (zI v4))] [] := by
  intro n
  induction n with
  | zero =>
    intro v4 T h
    exact h.elim
  | succ n ih =>
    intro v4 T h
    rw [h_X9_layWays_3] at h
    refine v_iload C 4 dX9_layWays_3 rfl ?_
    refine v_sipush C dX9_layWays_5 (by decide) ?_
    obtain ⟨e1, e2, e3⟩ := h
    refine v_icmp_ge (tgt := 25) C dX9_layWays_8 (by decide) e1 ⟨by decide, by decide⟩ (fun e4 => ?_) (fun e4 => ?_)
    · have h := e2 e4
      refine v_aload_n C 0 dX9_layWays_25 rfl ?_
      refine v_getA C kX9 35 rfl rfl wd_851 rfl dX9_layWays_26 ?_
      refine v_sipush C dX9_layWays_29 (by decide) ?_
      refine v_lconst (n := 1) C dX9_layWays_32 (by decide) ?_
      refine v_last C (ar_of (o := 13) rfl ar_9_35) dX9_layWays_33 (by decide) (by decide) ?_
      have h := h _ rfl
      refine v_iconst C dX9_layWays_34 ?_
      refine v_istore C dX9_layWays_35 (by decide) ?_
      obtain ⟨n9, h⟩ := h
      exact v_sub [1, 2, 3, 4, 0] rfl (t_X9_layWays_37 C E n9 _ _ h)
    · have h := e3 e4
      refine v_aload_n C 0 dX9_layWays_11 rfl ?_
      refine v_getA C kX9 35 rfl rfl wd_851 rfl dX9_layWays_12 ?_
      refine v_iload C 4 dX9_layWays_15 rfl ?_
      refine v_lconst (n := 0) C dX9_layWays_17 (by decide) ?_
      obtain ⟨e5, e6, h⟩ := h
      refine v_last C (ar_of (o := 13) rfl ar_9_35) dX9_layWays_18 e5 e6 ?_
      have h := h _ rfl
      refine v_iinc C 4 dX9_layWays_19 rfl (by decide) ?_
      refine v_goto (tgt := 3) C dX9_layWays_22 (by decide) ?_
      exact v_sub [1, 2, 3, 4, 0] rfl (ih _ _ h)
set_option maxRecDepth 100000 in
theorem s_X9_layWays (G : GT) (l0 : Launch) {v1 : Int} {v2 : Int} {v3 : Int} {T : TH} {Q : TH → Prop} (h : wp_X9_layWays v1 v2 v3 T Q) : MT G l0 yX9_layWays cX9_layWays 8 none 1 21 [.ref (gad G 13), .int (zI v1), .int (zI v2), .int (zI v3)] T (QV G Q) := by
  refine mt_of G l0 (by decide) (Nat.le_of_ble_eq_true rfl) (fun X C E => ?_)
  show V G X T 0 [(0, .ref (gad G 13)), (1, .int (zI v1)), (2, .int (zI v2)), (3, .int (zI v3))] []
  unfold wp_X9_layWays at h
  refine v_iconst C dX9_layWays_0 ?_
  refine v_istore C dX9_layWays_1 (by decide) ?_
  obtain ⟨n9, h⟩ := h
  exact v_sub [1, 2, 3, 4, 0] rfl (t_X9_layWays_3 C E n9 _ _ h)
def wp_X9_waysTo (v1 : Int) (T : TH) (Q : Int → TH → Prop) : Prop :=
  wp_X9_in v1 (-599) 599 T (fun p2 T1 => (p2 = false → (Q 0 T1)) ∧ (p2 = true → (0 ≤ (600 + v1) ∧ (600 + v1) < 1200 ∧ Q (T1 13 35 (600 + v1)) T1)))
set_option maxRecDepth 100000 in
theorem s_X9_waysTo (G : GT) (l0 : Launch) {v1 : Int} {T : TH} {Q : Int → TH → Prop} (h : wp_X9_waysTo v1 T Q) : MT G l0 yX9_waysTo cX9_waysTo 2 (some .long) 1 22 [.ref (gad G 13), .int (zI v1)] T (QL G Q) := by
  refine mt_of G l0 (by decide) (Nat.le_of_ble_eq_true rfl) (fun X C E => ?_)
  show V G X T 0 [(0, .ref (gad G 13)), (1, .int (zI v1))] []
  unfold wp_X9_waysTo at h
  refine v_iload_n C 1 dX9_waysTo_0 rfl ?_
  refine v_sipush C dX9_waysTo_1 (by decide) ?_
  refine v_sipush C dX9_waysTo_4 (by decide) ?_
  refine v_cSZ C (s_X9_in G l0 h) mv_X9_in wd_937 ⟨by decide, by decide⟩ rfl rfl (Nat.le_of_ble_eq_true rfl) dX9_waysTo_7 (fun p2 T1 h => ?_)
  obtain ⟨e1, e2⟩ := h
  refine v_ifz_eq (tgt := 26) C dX9_waysTo_10 (by decide) (fun e3 => ?_) (fun e3 => ?_)
  · have h := e1 e3
    refine v_lconst (n := 0) C dX9_waysTo_26 (by decide) ?_
    exact v_lret C E dX9_waysTo_27 h
  · have h := e2 e3
    refine v_aload_n C 0 dX9_waysTo_13 rfl ?_
    refine v_getA C kX9 35 rfl rfl wd_851 rfl dX9_waysTo_14 ?_
    refine v_sipush C dX9_waysTo_17 (by decide) ?_
    refine v_iload_n C 1 dX9_waysTo_20 rfl ?_
    refine v_iadd C dX9_waysTo_21 ?_
    obtain ⟨e4, e5, h⟩ := h
    refine v_lald C (ar_of (o := 13) rfl ar_9_35) dX9_waysTo_22 e4 e5 ?_
    refine v_goto (tgt := 27) C dX9_waysTo_23 (by decide) ?_
    exact v_lret C E dX9_waysTo_27 h
def b_X9_counted_139 (v1 : Int) (v2 : Int) (v3 : Int) (v4 : Int) (Q : Int → TH → Prop) (K75 : Int → Int → TH → Prop) (v6 : Int) (s0 : Int) (T : TH) : Prop :=
  K75 s0 (v6 + 1) T
def b_X9_counted_112 (v1 : Int) (v2 : Int) (v3 : Int) (v4 : Int) (Q : Int → TH → Prop) (K75 : Int → Int → TH → Prop) (v5 : Int) (v6 : Int) (s0 : Int) (T : TH) : Prop :=
  wp_X9_layWays v1 v3 s0 T (fun T1 => wp_X9_waysTo v2 T1 (fun r3 T2 => zRL r3 ∧ zRL 0 ∧ zR (zlc r3 0) ∧ ((zlc r3 0) ≤ 0 → (b_X9_counted_139 v1 v2 v3 v4 Q K75 v6 v5 T2)) ∧ (¬ ((zlc r3 0) ≤ 0) → (b_X9_counted_139 v1 v2 v3 v4 Q K75 v6 s0 T2))))
def h_X9_counted_75 (v1 : Int) (v2 : Int) (v3 : Int) (v4 : Int) (Q : Int → TH → Prop) : Nat → Int → Int → TH → Prop
  | 0, _, _, _ => False
  | n + 1, v5, v6, T => zR v6 ∧ zR (T 13 17 0) ∧ ((T 13 17 0) ≤ v6 → (Q v5 T)) ∧ (¬ ((T 13 17 0) ≤ v6) → (wp_X9_personOf v3 T (fun r2 T1 => zR r2 ∧ zR v1 ∧ (¬ r2 = v1 → (Q v5 T1)) ∧ (r2 = v1 → (zR v4 ∧ (¬ v4 = 0 → (b_X9_counted_112 v1 v2 v3 v4 Q (h_X9_counted_75 v1 v2 v3 v4 Q n) v5 v6 v6 T1)) ∧ (v4 = 0 → (b_X9_counted_112 v1 v2 v3 v4 Q (h_X9_counted_75 v1 v2 v3 v4 Q n) v5 v6 (((T1 13 17 0) - 1) - v6) T1)))))))
def b_X9_counted_24 (v1 : Int) (v2 : Int) (v3 : Int) (v4 : Int) (Q : Int → TH → Prop) (T : TH) : Prop :=
  wp_X9_in v2 (-999) 999 T (fun p2 T1 => (p2 = false → (Q (-1000000002) T1)) ∧ (p2 = true → (wp_X9_in v4 0 1 T1 (fun p4 T3 => (p4 = true → (zR v3 ∧ (¬ v3 = (-1) → ((∃ m9 : Nat, h_X9_counted_75 v1 v2 v3 v4 Q m9 (-1) 0 T3))) ∧ (v3 = (-1) → (wp_X9_layWays v1 (-1) 0 T3 (fun T5 => wp_X9_waysTo v2 T5 (fun r7 T6 => Q r7 T6)))))) ∧ (p4 = false → (Q (-1000000002) T3))))))
def wp_X9_counted (v1 : Int) (v2 : Int) (v3 : Int) (v4 : Int) (T : TH) (Q : Int → TH → Prop) : Prop :=
  wp_X9_isOne v1 T (fun p2 T1 => (p2 = false → (Q (-1000000001) T1)) ∧ (p2 = true → (zR v3 ∧ (v3 = (-1) → (b_X9_counted_24 v1 v2 v3 v4 Q T1)) ∧ (¬ (v3 = (-1)) → (wp_X9_isFact v3 T1 (fun p4 T3 => (p4 = true → (b_X9_counted_24 v1 v2 v3 v4 Q T3)) ∧ (p4 = false → (Q (-1000000001) T3))))))))
set_option maxRecDepth 100000 in
theorem t_X9_counted_139 {G : GT} {l0 : Launch} {X : CX} (C : CT G l0 X cX9_counted 8 RX9 (rM 2 48)) {Q : Int → TH → Prop} (E : EN G X (some .int) (QI G Q)) {v1 : Int} {v2 : Int} {v3 : Int} {v4 : Int} {K75 : Int → Int → TH → Prop} (k75 : ∀ (v5 : Int) (v6 : Int) (T : TH), K75 v5 v6 T → V G X T 75 [(0, .ref (gad G 13)), (1, .int (zI v1)), (2, .int (zI v2)), (3, .int (zI v3)), (4, .int (zI v4)), (5, .int (zI v5)), (6, .int (zI v6))] []) {v6 : Int} {s0 : Int} {T : TH} (h : b_X9_counted_139 v1 v2 v3 v4 Q K75 v6 s0 T) : V G X T 139 [(0, .ref (gad G 13)), (1, .int (zI v1)), (2, .int (zI v2)), (3, .int (zI v3)), (4, .int (zI v4)), (6, .int (zI v6))] [.int (zI s0)] := by
  unfold b_X9_counted_139 at h
  refine v_istore C dX9_counted_139 (by decide) ?_
  refine v_iinc C 6 dX9_counted_141 rfl (by decide) ?_
  refine v_goto (tgt := 75) C dX9_counted_144 (by decide) ?_
  exact v_sub [2, 3, 4, 5, 6, 1, 0] rfl (k75 _ _ _ h)
set_option maxRecDepth 100000 in
theorem t_X9_counted_112 {G : GT} {l0 : Launch} {X : CX} (C : CT G l0 X cX9_counted 8 RX9 (rM 2 48)) {Q : Int → TH → Prop} (E : EN G X (some .int) (QI G Q)) {v1 : Int} {v2 : Int} {v3 : Int} {v4 : Int} {K75 : Int → Int → TH → Prop} (k75 : ∀ (v5 : Int) (v6 : Int) (T : TH), K75 v5 v6 T → V G X T 75 [(0, .ref (gad G 13)), (1, .int (zI v1)), (2, .int (zI v2)), (3, .int (zI v3)), (4, .int (zI v4)), (5, .int (zI v5)), (6, .int (zI v6))] []) {v5 : Int} {v6 : Int} {s0 : Int} {T : TH} (h : b_X9_counted_112 v1 v2 v3 v4 Q K75 v5 v6 s0 T) : V G X T 112 [(0, .ref (gad G 13)), (1, .int (zI v1)), (2, .int (zI v2)), (3, .int (zI v3)), (4, .int (zI v4)), (5, .int (zI v5)), (6, .int (zI v6))] [.int (zI s0)] := by
  unfold b_X9_counted_112 at h
  refine v_istore C dX9_counted_112 (by decide) ?_
  refine v_aload_n C 1 dX9_counted_114 rfl ?_
  refine v_iload_n C 2 dX9_counted_115 rfl ?_
  refine v_iload_n C 4 dX9_counted_116 rfl ?_
  refine v_iload C 0 dX9_counted_117 rfl ?_
  refine v_cVN C kX9 rfl (s_X9_layWays G l0 h) mv_X9_layWays wd_1138 ⟨by decide, by decide⟩ rfl rfl (Nat.le_of_ble_eq_true rfl) dX9_counted_119 (fun T1 h => ?_)
  refine v_aload_n C 1 dX9_counted_122 rfl ?_
  refine v_iload_n C 3 dX9_counted_123 rfl ?_
  refine v_cVL C kX9 rfl (s_X9_waysTo G l0 h) mv_X9_waysTo wd_1142 ⟨by decide, by decide⟩ rfl rfl (Nat.le_of_ble_eq_true rfl) dX9_counted_124 (fun r3 T2 h => ?_)
  refine v_lconst (n := 0) C dX9_counted_127 (by decide) ?_
  obtain ⟨e1, e2, h⟩ := h
  refine v_lcmp C dX9_counted_128 e1 e2 ?_
  obtain ⟨e3, e4, e5⟩ := h
  refine v_if_le (tgt := 137) C dX9_counted_129 (by decide) e3 (fun e6 => ?_) (fun e6 => ?_)
  · have h := e4 e6
    refine v_iload C 6 dX9_counted_137 rfl ?_
    exact v_sub [1, 2, 3, 4, 5, 7] rfl (t_X9_counted_139 C E k75 h)
  · have h := e5 e6
    refine v_iload C 0 dX9_counted_132 rfl ?_
    refine v_goto (tgt := 139) C dX9_counted_134 (by decide) ?_
    exact v_sub [1, 2, 3, 4, 5, 7] rfl (t_X9_counted_139 C E k75 h)
set_option maxRecDepth 100000 in
theorem t_X9_counted_75 {G : GT} {l0 : Launch} {X : CX} (C : CT G l0 X cX9_counted 8 RX9 (rM 2 48)) {Q : Int → TH → Prop} (E : EN G X (some .int) (QI G Q)) {v1 : Int} {v2 : Int} {v3 : Int} {v4 : Int} : ∀ (n : Nat) (v5 : Int) (v6 : Int) (T : TH), h_X9_counted_75 v1 v2 v3 v4 Q n v5 v6 T → V G X T 75 [(0, .ref (gad G 13)), (1, .int (zI v1)), (2, .int (zI v2)), (3, .int (zI v3)), (4, .int (zI v4)), (5, .int (zI v5)), (6, .int (zI v6))] [] := by
  intro n
  induction n with
  | zero =>
    intro v5 v6 T h
    exact h.elim
  | succ n ih =>
    intro v5 v6 T h
    rw [h_X9_counted_75] at h
    refine v_iload C 6 dX9_counted_75 rfl ?_
    refine v_aload_n C 0 dX9_counted_77 rfl ?_
    refine v_getI C kX9 17 rfl rfl wd_833 rfl dX9_counted_78 ?_
    obtain ⟨e1, e2, e3, e4⟩ := h
    refine v_icmp_ge (tgt := 147) C dX9_counted_81 (by decide) e1 e2 (fun e5 => ?_) (fun e5 => ?_)
    · have h := e3 e5
      refine v_iload C 5 dX9_counted_147 rfl ?_
      exact v_iret C E dX9_counted_149 h
    · have h := e4 e5
      refine v_aload_n C 0 dX9_counted_84 rfl ?_
      refine v_iload_n C 3 dX9_counted_85 rfl ?_
      refine v_cVI C kX9 rfl (s_X9_personOf G l0 h) mv_X9_personOf wd_1009 ⟨by decide, by decide⟩ rfl rfl (Nat.le_of_ble_eq_true rfl) dX9_counted_86 (fun r2 T1 h => ?_)
      refine v_iload_n C 1 dX9_counted_89 rfl ?_
      obtain ⟨e6, e7, e8, e9⟩ := h
      refine v_icmp_ne (tgt := 147) C dX9_counted_90 (by decide) e6 e7 (fun e10 => ?_) (fun e10 => ?_)
      · have h := e8 e10
        refine v_iload C 5 dX9_counted_147 rfl ?_
        exact v_iret C E dX9_counted_149 h
      · have h := e9 e10
        refine v_iload C 4 dX9_counted_93 rfl ?_
        obtain ⟨e11, e12, e13⟩ := h
        refine v_if_ne (tgt := 110) C dX9_counted_95 (by decide) e11 (fun e14 => ?_) (fun e14 => ?_)
        · have h := e12 e14
          refine v_iload C 6 dX9_counted_110 rfl ?_
          exact v_sub [0, 1, 2, 3, 4, 5, 6] rfl (t_X9_counted_112 C E ih h)
        · have h := e13 e14
          refine v_aload_n C 0 dX9_counted_98 rfl ?_
          refine v_getI C kX9 17 rfl rfl wd_833 rfl dX9_counted_99 ?_
          refine v_iconst C dX9_counted_102 ?_
          refine v_isub C dX9_counted_103 ?_
          refine v_iload C 6 dX9_counted_104 rfl ?_
          refine v_isub C dX9_counted_106 ?_
          refine v_goto (tgt := 112) C dX9_counted_107 (by decide) ?_
          exact v_sub [0, 1, 2, 3, 4, 5, 6] rfl (t_X9_counted_112 C E ih h)
set_option maxRecDepth 100000 in
theorem t_X9_counted_24 {G : GT} {l0 : Launch} {X : CX} (C : CT G l0 X cX9_counted 8 RX9 (rM 2 48)) {Q : Int → TH → Prop} (E : EN G X (some .int) (QI G Q)) {v1 : Int} {v2 : Int} {v3 : Int} {v4 : Int} {T : TH} (h : b_X9_counted_24 v1 v2 v3 v4 Q T) : V G X T 24 [(0, .ref (gad G 13)), (1, .int (zI v1)), (2, .int (zI v2)), (3, .int (zI v3)), (4, .int (zI v4))] [] := by
  unfold b_X9_counted_24 at h
  refine v_iload_n C 2 dX9_counted_24 rfl ?_
  refine v_sipush C dX9_counted_25 (by decide) ?_
  refine v_sipush C dX9_counted_28 (by decide) ?_
  refine v_cSZ C (s_X9_in G l0 h) mv_X9_in wd_937 ⟨by decide, by decide⟩ rfl rfl (Nat.le_of_ble_eq_true rfl) dX9_counted_31 (fun p2 T1 h => ?_)
  obtain ⟨e1, e2⟩ := h
  refine v_ifz_eq (tgt := 47) C dX9_counted_34 (by decide) (fun e3 => ?_) (fun e3 => ?_)
  · have h := e1 e3
    refine v_ldc (n := -1000000002) C dX9_counted_47 wd_940 (by decide) ?_
    exact v_iret C E dX9_counted_49 h
  · have h := e2 e3
    refine v_iload C 4 dX9_counted_37 rfl ?_
    refine v_iconst C dX9_counted_39 ?_
    refine v_iconst C dX9_counted_40 ?_
    refine v_cSZ C (s_X9_in G l0 h) mv_X9_in wd_937 ⟨by decide, by decide⟩ rfl rfl (Nat.le_of_ble_eq_true rfl) dX9_counted_41 (fun p4 T3 h => ?_)
    obtain ⟨e4, e5⟩ := h
    refine v_ifz_ne (tgt := 50) C dX9_counted_44 (by decide) (fun e6 => ?_) (fun e6 => ?_)
    · have h := e4 e6
      refine v_iload_n C 3 dX9_counted_50 rfl ?_
      refine v_iconst C dX9_counted_51 ?_
      obtain ⟨e7, e8, e9⟩ := h
      refine v_icmp_ne (tgt := 69) C dX9_counted_52 (by decide) e7 ⟨by decide, by decide⟩ (fun e10 => ?_) (fun e10 => ?_)
      · have h := e8 e10
        refine v_iconst C dX9_counted_69 ?_
        refine v_istore C dX9_counted_70 (by decide) ?_
        refine v_iconst C dX9_counted_72 ?_
        refine v_istore C dX9_counted_73 (by decide) ?_
        obtain ⟨n9, h⟩ := h
        exact v_sub [2, 3, 4, 5, 6, 1, 0] rfl (t_X9_counted_75 C E n9 _ _ _ h)
      · have h := e9 e10
        refine v_aload_n C 0 dX9_counted_55 rfl ?_
        refine v_iload_n C 1 dX9_counted_56 rfl ?_
        refine v_iconst C dX9_counted_57 ?_
        refine v_iconst C dX9_counted_58 ?_
        refine v_cVN C kX9 rfl (s_X9_layWays G l0 h) mv_X9_layWays wd_1138 ⟨by decide, by decide⟩ rfl rfl (Nat.le_of_ble_eq_true rfl) dX9_counted_59 (fun T5 h => ?_)
        refine v_aload_n C 0 dX9_counted_62 rfl ?_
        refine v_iload_n C 2 dX9_counted_63 rfl ?_
        refine v_cVL C kX9 rfl (s_X9_waysTo G l0 h) mv_X9_waysTo wd_1142 ⟨by decide, by decide⟩ rfl rfl (Nat.le_of_ble_eq_true rfl) dX9_counted_64 (fun r7 T6 h => ?_)
        refine v_l2i C dX9_counted_67 ?_
        exact v_iret C E dX9_counted_68 h
    · have h := e5 e6
      refine v_ldc (n := -1000000002) C dX9_counted_47 wd_940 (by decide) ?_
      exact v_iret C E dX9_counted_49 h
set_option maxRecDepth 100000 in
theorem s_X9_counted (G : GT) (l0 : Launch) {v1 : Int} {v2 : Int} {v3 : Int} {v4 : Int} {T : TH} {Q : Int → TH → Prop} (h : wp_X9_counted v1 v2 v3 v4 T Q) : MT G l0 yX9_counted cX9_counted 8 (some .int) 2 48 [.ref (gad G 13), .int (zI v1), .int (zI v2), .int (zI v3), .int (zI v4)] T (QI G Q) := by
  refine mt_of G l0 (by decide) (Nat.le_of_ble_eq_true rfl) (fun X C E => ?_)
  show V G X T 0 [(0, .ref (gad G 13)), (1, .int (zI v1)), (2, .int (zI v2)), (3, .int (zI v3)), (4, .int (zI v4))] []
  unfold wp_X9_counted at h
  refine v_aload_n C 0 dX9_counted_0 rfl ?_
  refine v_iload_n C 1 dX9_counted_1 rfl ?_
  refine v_cVZ C kX9 rfl (s_X9_isOne G l0 h) mv_X9_isOne wd_1033 ⟨by decide, by decide⟩ rfl rfl (Nat.le_of_ble_eq_true rfl) dX9_counted_2 (fun p2 T1 h => ?_)
  obtain ⟨e1, e2⟩ := h
  refine v_ifz_eq (tgt := 21) C dX9_counted_5 (by decide) (fun e3 => ?_) (fun e3 => ?_)
  · have h := e1 e3
    refine v_ldc (n := -1000000001) C dX9_counted_21 wd_1024 (by decide) ?_
    exact v_iret C E dX9_counted_23 h
  · have h := e2 e3
    refine v_iload_n C 3 dX9_counted_8 rfl ?_
    refine v_iconst C dX9_counted_9 ?_
    obtain ⟨e4, e5, e6⟩ := h
    refine v_icmp_eq (tgt := 24) C dX9_counted_10 (by decide) e4 ⟨by decide, by decide⟩ (fun e7 => ?_) (fun e7 => ?_)
    · have h := e5 e7
      exact v_sub [0, 1, 2, 3, 4] rfl (t_X9_counted_24 C E h)
    · have h := e6 e7
      refine v_aload_n C 0 dX9_counted_13 rfl ?_
      refine v_iload_n C 3 dX9_counted_14 rfl ?_
      refine v_cVZ C kX9 rfl (s_X9_isFact G l0 h) mv_X9_isFact wd_1020 ⟨by decide, by decide⟩ rfl rfl (Nat.le_of_ble_eq_true rfl) dX9_counted_15 (fun p4 T3 h => ?_)
      obtain ⟨e8, e9⟩ := h
      refine v_ifz_ne (tgt := 24) C dX9_counted_18 (by decide) (fun e10 => ?_) (fun e10 => ?_)
      · have h := e8 e10
        exact v_sub [0, 1, 2, 3, 4] rfl (t_X9_counted_24 C E h)
      · have h := e9 e10
        refine v_ldc (n := -1000000001) C dX9_counted_21 wd_1024 (by decide) ?_
        exact v_iret C E dX9_counted_23 h
def b_X9_lies_207 (v1 : Int) (v2 : Int) (v3 : Int) (Q : Int → TH → Prop) (K55 : Int → Int → Int → Int → TH → Prop) (v4 : Int) (v5 : Int) (v6 : Int) (v7 : Int) (T : TH) : Prop :=
  K55 v4 v5 v6 (v7 + (-1)) T
def b_X9_lies_198 (v1 : Int) (v2 : Int) (v3 : Int) (Q : Int → TH → Prop) (K55 : Int → Int → Int → Int → TH → Prop) (v4 : Int) (v7 : Int) (s0 : Int) (T : TH) : Prop :=
  b_X9_lies_207 v1 v2 v3 Q K55 (v4 + 1) v7 s0 v7 T
def b_X9_lies_163 (v1 : Int) (v2 : Int) (v3 : Int) (Q : Int → TH → Prop) (K55 : Int → Int → Int → Int → TH → Prop) (K69 : Int → Int → Int → Int → Int → Bool → Int → TH → Prop) (v4 : Int) (v5 : Int) (v6 : Int) (v7 : Int) (z9 : Bool) (v10 : Int) (s0 : Int) (s1 : Int) (T : TH) : Prop :=
  ∀ w1 : Int, w1 = (s0 + s1) → K69 v4 v5 v6 v7 w1 z9 (v10 + 1) T
def b_X9_lies_141 (v1 : Int) (v2 : Int) (v3 : Int) (Q : Int → TH → Prop) (K55 : Int → Int → Int → Int → TH → Prop) (K69 : Int → Int → Int → Int → Int → Bool → Int → TH → Prop) (v4 : Int) (v5 : Int) (v6 : Int) (v7 : Int) (v8 : Int) (v10 : Int) (v11 : Int) (y0 : Bool) (T : TH) : Prop :=
  wp_X9_has v7 v10 T (fun p2 T1 => (p2 = false → (b_X9_lies_163 v1 v2 v3 Q K55 K69 v4 v5 v6 v7 y0 v10 v8 v11 T1)) ∧ (p2 = true → (b_X9_lies_163 v1 v2 v3 Q K55 K69 v4 v5 v6 v7 y0 v10 v8 (-v11) T1)))
def b_X9_lies_140 (v1 : Int) (v2 : Int) (v3 : Int) (Q : Int → TH → Prop) (K55 : Int → Int → Int → Int → TH → Prop) (K69 : Int → Int → Int → Int → Int → Bool → Int → TH → Prop) (v4 : Int) (v5 : Int) (v6 : Int) (v7 : Int) (v8 : Int) (v10 : Int) (v11 : Int) (T : TH) : Prop :=
  b_X9_lies_141 v1 v2 v3 Q K55 K69 v4 v5 v6 v7 v8 v10 v11 false T
def b_X9_lies_136 (v1 : Int) (v2 : Int) (v3 : Int) (Q : Int → TH → Prop) (K55 : Int → Int → Int → Int → TH → Prop) (K69 : Int → Int → Int → Int → Int → Bool → Int → TH → Prop) (v4 : Int) (v5 : Int) (v6 : Int) (v7 : Int) (v8 : Int) (v10 : Int) (v11 : Int) (T : TH) : Prop :=
  b_X9_lies_141 v1 v2 v3 Q K55 K69 v4 v5 v6 v7 v8 v10 v11 true T
def b_X9_lies_109 (v1 : Int) (v2 : Int) (v3 : Int) (Q : Int → TH → Prop) (K55 : Int → Int → Int → Int → TH → Prop) (K69 : Int → Int → Int → Int → Int → Bool → Int → TH → Prop) (v4 : Int) (v5 : Int) (v6 : Int) (v7 : Int) (v8 : Int) (z9 : Bool) (v10 : Int) (s0 : Int) (T : TH) : Prop :=
  (z9 = false → (b_X9_lies_140 v1 v2 v3 Q K55 K69 v4 v5 v6 v7 v8 v10 s0 T)) ∧ (z9 = true → (wp_X9_personOf v10 T (fun r2 T1 => zR r2 ∧ zR v1 ∧ (r2 = v1 → (b_X9_lies_136 v1 v2 v3 Q K55 K69 v4 v5 v6 v7 v8 v10 s0 T1)) ∧ (¬ (r2 = v1) → (wp_X9_has v7 v10 T1 (fun p4 T3 => (p4 = true → (b_X9_lies_140 v1 v2 v3 Q K55 K69 v4 v5 v6 v7 v8 v10 s0 T3)) ∧ (p4 = false → (b_X9_lies_136 v1 v2 v3 Q K55 K69 v4 v5 v6 v7 v8 v10 s0 T3))))))))
def h_X9_lies_69 (v1 : Int) (v2 : Int) (v3 : Int) (Q : Int → TH → Prop) (K55 : Int → Int → Int → Int → TH → Prop) : Nat → Int → Int → Int → Int → Int → Bool → Int → TH → Prop
  | 0, _, _, _, _, _, _, _, _ => False
  | n + 1, v4, v5, v6, v7, v8, z9, v10, T => zR v10 ∧ zR (T 13 18 0) ∧ ((T 13 18 0) ≤ v10 → ((z9 = false → (b_X9_lies_207 v1 v2 v3 Q K55 v4 v5 v6 v7 T)) ∧ (z9 = true → (zR v8 ∧ zR v2 ∧ (¬ v8 = v2 → (b_X9_lies_207 v1 v2 v3 Q K55 v4 v5 v6 v7 T)) ∧ (v8 = v2 → (zR v4 ∧ (¬ v4 = 0 → (b_X9_lies_198 v1 v2 v3 Q K55 v4 v7 (zand v6 v7) T)) ∧ (v4 = 0 → (b_X9_lies_198 v1 v2 v3 Q K55 v4 v7 v7 T)))))))) ∧ (¬ ((T 13 18 0) ≤ v10) → (wp_X9_personOf v10 T (fun r2 T1 => zR r2 ∧ zR v1 ∧ (¬ r2 = v1 → (b_X9_lies_109 v1 v2 v3 Q K55 (h_X9_lies_69 v1 v2 v3 Q K55 n) v4 v5 v6 v7 v8 z9 v10 0 T1)) ∧ (r2 = v1 → (wp_X9_gramsOf v10 T1 (fun r4 T3 => wp_X9_headsOf 13 26 58 v10 T3 (fun r6 T5 => b_X9_lies_109 v1 v2 v3 Q K55 (h_X9_lies_69 v1 v2 v3 Q K55 n) v4 v5 v6 v7 v8 z9 v10 (r4 * r6) T5)))))))
def h_X9_lies_55 (v1 : Int) (v2 : Int) (v3 : Int) (Q : Int → TH → Prop) : Nat → Int → Int → Int → Int → TH → Prop
  | 0, _, _, _, _, _ => False
  | n + 1, v4, v5, v6, v7, T => zR v7 ∧ (v7 < 0 → (zR v3 ∧ (¬ v3 = 0 → (zR v3 ∧ (¬ v3 = 1 → (Q v6 T)) ∧ (v3 = 1 → (Q v5 T)))) ∧ (v3 = 0 → (Q v4 T)))) ∧ (¬ (v7 < 0) → ((∃ m9 : Nat, h_X9_lies_69 v1 v2 v3 Q (h_X9_lies_55 v1 v2 v3 Q n) m9 v4 v5 v6 v7 0 true 0 T)))
def wp_X9_lies (v1 : Int) (v2 : Int) (v3 : Int) (T : TH) (Q : Int → TH → Prop) : Prop :=
  wp_X9_isOne v1 T (fun p2 T1 => (p2 = true → (wp_X9_in v2 (-999) 999 T1 (fun p4 T3 => (p4 = false → (Q (-1000000002) T3)) ∧ (p4 = true → (wp_X9_in v3 0 2 T3 (fun p6 T5 => (p6 = true → (∀ w7 : Int, w7 = ((zshl 1 (T5 13 18 0)) - 1) → (∃ m9 : Nat, h_X9_lies_55 v1 v2 v3 Q m9 0 (-1) 0 w7 T5))) ∧ (p6 = false → (Q (-1000000002) T5)))))))) ∧ (p2 = false → (Q (-1000000001) T1)))
set_option maxRecDepth 100000 in
theorem t_X9_lies_207 {G : GT} {l0 : Launch} {X : CX} (C : CT G l0 X cX9_lies 12 RX9 (rM 2 46)) {Q : Int → TH → Prop} (E : EN G X (some .int) (QI G Q)) {v1 : Int} {v2 : Int} {v3 : Int} {K55 : Int → Int → Int → Int → TH → Prop} (k55 : ∀ (v4 : Int) (v5 : Int) (v6 : Int) (v7 : Int) (T : TH), K55 v4 v5 v6 v7 T → V G X T 55 [(0, .ref (gad G 13)), (1, .int (zI v1)), (2, .int (zI v2)), (3, .int (zI v3)), (4, .int (zI v4)), (5, .int (zI v5)), (6, .int (zI v6)), (7, .int (zI v7))] []) {v4 : Int} {v5 : Int} {v6 : Int} {v7 : Int} {T : TH} (h : b_X9_lies_207 v1 v2 v3 Q K55 v4 v5 v6 v7 T) : V G X T 207 [(0, .ref (gad G 13)), (1, .int (zI v1)), (2, .int (zI v2)), (3, .int (zI v3)), (4, .int (zI v4)), (5, .int (zI v5)), (6, .int (zI v6)), (7, .int (zI v7))] [] := by
  unfold b_X9_lies_207 at h
  refine v_iinc C 7 dX9_lies_207 rfl (by decide) ?_
  refine v_goto (tgt := 55) C dX9_lies_210 (by decide) ?_
  exact v_sub [1, 2, 3, 4, 5, 6, 7, 0] rfl (k55 _ _ _ _ _ h)
set_option maxRecDepth 100000 in
theorem t_X9_lies_198 {G : GT} {l0 : Launch} {X : CX} (C : CT G l0 X cX9_lies 12 RX9 (rM 2 46)) {Q : Int → TH → Prop} (E : EN G X (some .int) (QI G Q)) {v1 : Int} {v2 : Int} {v3 : Int} {K55 : Int → Int → Int → Int → TH → Prop} (k55 : ∀ (v4 : Int) (v5 : Int) (v6 : Int) (v7 : Int) (T : TH), K55 v4 v5 v6 v7 T → V G X T 55 [(0, .ref (gad G 13)), (1, .int (zI v1)), (2, .int (zI v2)), (3, .int (zI v3)), (4, .int (zI v4)), (5, .int (zI v5)), (6, .int (zI v6)), (7, .int (zI v7))] []) {v4 : Int} {v7 : Int} {s0 : Int} {T : TH} (h : b_X9_lies_198 v1 v2 v3 Q K55 v4 v7 s0 T) : V G X T 198 [(0, .ref (gad G 13)), (1, .int (zI v1)), (2, .int (zI v2)), (3, .int (zI v3)), (4, .int (zI v4)), (7, .int (zI v7))] [.int (zI s0)] := by
  unfold b_X9_lies_198 at h
  refine v_istore C dX9_lies_198 (by decide) ?_
  refine v_iload C 6 dX9_lies_200 rfl ?_
  refine v_istore C dX9_lies_202 (by decide) ?_
  refine v_iinc C 6 dX9_lies_204 rfl (by decide) ?_
  exact v_sub [3, 4, 5, 6, 0, 1, 2, 7] rfl (t_X9_lies_207 C E k55 h)
set_option maxRecDepth 100000 in
theorem t_X9_lies_163 {G : GT} {l0 : Launch} {X : CX} (C : CT G l0 X cX9_lies 12 RX9 (rM 2 46)) {Q : Int → TH → Prop} (E : EN G X (some .int) (QI G Q)) {v1 : Int} {v2 : Int} {v3 : Int} {K55 : Int → Int → Int → Int → TH → Prop} {K69 : Int → Int → Int → Int → Int → Bool → Int → TH → Prop} (k55 : ∀ (v4 : Int) (v5 : Int) (v6 : Int) (v7 : Int) (T : TH), K55 v4 v5 v6 v7 T → V G X T 55 [(0, .ref (gad G 13)), (1, .int (zI v1)), (2, .int (zI v2)), (3, .int (zI v3)), (4, .int (zI v4)), (5, .int (zI v5)), (6, .int (zI v6)), (7, .int (zI v7))] []) (k69 : ∀ (v4 : Int) (v5 : Int) (v6 : Int) (v7 : Int) (v8 : Int) (z9 : Bool) (v10 : Int) (T : TH), K69 v4 v5 v6 v7 v8 z9 v10 T → V G X T 69 [(0, .ref (gad G 13)), (1, .int (zI v1)), (2, .int (zI v2)), (3, .int (zI v3)), (4, .int (zI v4)), (5, .int (zI v5)), (6, .int (zI v6)), (7, .int (zI v7)), (8, .int (zI v8)), (9, .int (zI (zi z9))), (10, .int (zI v10))] []) {v4 : Int} {v5 : Int} {v6 : Int} {v7 : Int} {z9 : Bool} {v10 : Int} {s0 : Int} {s1 : Int} {T : TH} (h : b_X9_lies_163 v1 v2 v3 Q K55 K69 v4 v5 v6 v7 z9 v10 s0 s1 T) : V G X T 163 [(0, .ref (gad G 13)), (1, .int (zI v1)), (2, .int (zI v2)), (3, .int (zI v3)), (4, .int (zI v4)), (5, .int (zI v5)), (6, .int (zI v6)), (7, .int (zI v7)), (9, .int (zI (zi z9))), (10, .int (zI v10))] [.int (zI s1), .int (zI s0)] := by
  unfold b_X9_lies_163 at h
  refine v_iadd C dX9_lies_163 ?_
  refine v_istore C dX9_lies_164 (by decide) ?_
  have h := h _ rfl
  refine v_iinc C 10 dX9_lies_166 rfl (by decide) ?_
  refine v_goto (tgt := 69) C dX9_lies_169 (by decide) ?_
  exact v_sub [2, 3, 4, 5, 6, 7, 8, 9, 1, 10, 0] rfl (k69 _ _ _ _ _ _ _ _ h)
set_option maxRecDepth 100000 in
theorem t_X9_lies_141 {G : GT} {l0 : Launch} {X : CX} (C : CT G l0 X cX9_lies 12 RX9 (rM 2 46)) {Q : Int → TH → Prop} (E : EN G X (some .int) (QI G Q)) {v1 : Int} {v2 : Int} {v3 : Int} {K55 : Int → Int → Int → Int → TH → Prop} {K69 : Int → Int → Int → Int → Int → Bool → Int → TH → Prop} (k55 : ∀ (v4 : Int) (v5 : Int) (v6 : Int) (v7 : Int) (T : TH), K55 v4 v5 v6 v7 T → V G X T 55 [(0, .ref (gad G 13)), (1, .int (zI v1)), (2, .int (zI v2)), (3, .int (zI v3)), (4, .int (zI v4)), (5, .int (zI v5)), (6, .int (zI v6)), (7, .int (zI v7))] []) (k69 : ∀ (v4 : Int) (v5 : Int) (v6 : Int) (v7 : Int) (v8 : Int) (z9 : Bool) (v10 : Int) (T : TH), K69 v4 v5 v6 v7 v8 z9 v10 T → V G X T 69 [(0, .ref (gad G 13)), (1, .int (zI v1)), (2, .int (zI v2)), (3, .int (zI v3)), (4, .int (zI v4)), (5, .int (zI v5)), (6, .int (zI v6)), (7, .int (zI v7)), (8, .int (zI v8)), (9, .int (zI (zi z9))), (10, .int (zI v10))] []) {v4 : Int} {v5 : Int} {v6 : Int} {v7 : Int} {v8 : Int} {v10 : Int} {v11 : Int} {y0 : Bool} {T : TH} (h : b_X9_lies_141 v1 v2 v3 Q K55 K69 v4 v5 v6 v7 v8 v10 v11 y0 T) : V G X T 141 [(0, .ref (gad G 13)), (1, .int (zI v1)), (2, .int (zI v2)), (3, .int (zI v3)), (4, .int (zI v4)), (5, .int (zI v5)), (6, .int (zI v6)), (7, .int (zI v7)), (8, .int (zI v8)), (10, .int (zI v10)), (11, .int (zI v11))] [.int (zI (zi y0))] := by
  unfold b_X9_lies_141 at h
  refine v_istore C dX9_lies_141 (by decide) ?_
  refine v_iload C 9 dX9_lies_143 rfl ?_
  refine v_iload C 8 dX9_lies_145 rfl ?_
  refine v_iload C 10 dX9_lies_147 rfl ?_
  refine v_cSZ C (s_X9_has G l0 h) mv_X9_has wd_986 ⟨by decide, by decide⟩ rfl rfl (Nat.le_of_ble_eq_true rfl) dX9_lies_149 (fun p2 T1 h => ?_)
  obtain ⟨e1, e2⟩ := h
  refine v_ifz_eq (tgt := 161) C dX9_lies_152 (by decide) (fun e3 => ?_) (fun e3 => ?_)
  · have h := e1 e3
    refine v_iload C 11 dX9_lies_161 rfl ?_
    exact v_sub [1, 2, 3, 4, 5, 6, 7, 8, 0, 10] rfl (t_X9_lies_163 C E k55 k69 h)
  · have h := e2 e3
    refine v_iload C 11 dX9_lies_155 rfl ?_
    refine v_ineg C dX9_lies_157 ?_
    refine v_goto (tgt := 163) C dX9_lies_158 (by decide) ?_
    exact v_sub [1, 2, 3, 4, 5, 6, 7, 8, 0, 10] rfl (t_X9_lies_163 C E k55 k69 h)
set_option maxRecDepth 100000 in
theorem t_X9_lies_140 {G : GT} {l0 : Launch} {X : CX} (C : CT G l0 X cX9_lies 12 RX9 (rM 2 46)) {Q : Int → TH → Prop} (E : EN G X (some .int) (QI G Q)) {v1 : Int} {v2 : Int} {v3 : Int} {K55 : Int → Int → Int → Int → TH → Prop} {K69 : Int → Int → Int → Int → Int → Bool → Int → TH → Prop} (k55 : ∀ (v4 : Int) (v5 : Int) (v6 : Int) (v7 : Int) (T : TH), K55 v4 v5 v6 v7 T → V G X T 55 [(0, .ref (gad G 13)), (1, .int (zI v1)), (2, .int (zI v2)), (3, .int (zI v3)), (4, .int (zI v4)), (5, .int (zI v5)), (6, .int (zI v6)), (7, .int (zI v7))] []) (k69 : ∀ (v4 : Int) (v5 : Int) (v6 : Int) (v7 : Int) (v8 : Int) (z9 : Bool) (v10 : Int) (T : TH), K69 v4 v5 v6 v7 v8 z9 v10 T → V G X T 69 [(0, .ref (gad G 13)), (1, .int (zI v1)), (2, .int (zI v2)), (3, .int (zI v3)), (4, .int (zI v4)), (5, .int (zI v5)), (6, .int (zI v6)), (7, .int (zI v7)), (8, .int (zI v8)), (9, .int (zI (zi z9))), (10, .int (zI v10))] []) {v4 : Int} {v5 : Int} {v6 : Int} {v7 : Int} {v8 : Int} {v10 : Int} {v11 : Int} {T : TH} (h : b_X9_lies_140 v1 v2 v3 Q K55 K69 v4 v5 v6 v7 v8 v10 v11 T) : V G X T 140 [(0, .ref (gad G 13)), (1, .int (zI v1)), (2, .int (zI v2)), (3, .int (zI v3)), (4, .int (zI v4)), (5, .int (zI v5)), (6, .int (zI v6)), (7, .int (zI v7)), (8, .int (zI v8)), (10, .int (zI v10)), (11, .int (zI v11))] [] := by
  unfold b_X9_lies_140 at h
  refine v_iconst C dX9_lies_140 ?_
  exact v_sub [0, 1, 2, 3, 4, 5, 6, 7, 8, 9, 10] rfl (t_X9_lies_141 C E k55 k69 h)
set_option maxRecDepth 100000 in
theorem t_X9_lies_136 {G : GT} {l0 : Launch} {X : CX} (C : CT G l0 X cX9_lies 12 RX9 (rM 2 46)) {Q : Int → TH → Prop} (E : EN G X (some .int) (QI G Q)) {v1 : Int} {v2 : Int} {v3 : Int} {K55 : Int → Int → Int → Int → TH → Prop} {K69 : Int → Int → Int → Int → Int → Bool → Int → TH → Prop} (k55 : ∀ (v4 : Int) (v5 : Int) (v6 : Int) (v7 : Int) (T : TH), K55 v4 v5 v6 v7 T → V G X T 55 [(0, .ref (gad G 13)), (1, .int (zI v1)), (2, .int (zI v2)), (3, .int (zI v3)), (4, .int (zI v4)), (5, .int (zI v5)), (6, .int (zI v6)), (7, .int (zI v7))] []) (k69 : ∀ (v4 : Int) (v5 : Int) (v6 : Int) (v7 : Int) (v8 : Int) (z9 : Bool) (v10 : Int) (T : TH), K69 v4 v5 v6 v7 v8 z9 v10 T → V G X T 69 [(0, .ref (gad G 13)), (1, .int (zI v1)), (2, .int (zI v2)), (3, .int (zI v3)), (4, .int (zI v4)), (5, .int (zI v5)), (6, .int (zI v6)), (7, .int (zI v7)), (8, .int (zI v8)), (9, .int (zI (zi z9))), (10, .int (zI v10))] []) {v4 : Int} {v5 : Int} {v6 : Int} {v7 : Int} {v8 : Int} {v10 : Int} {v11 : Int} {T : TH} (h : b_X9_lies_136 v1 v2 v3 Q K55 K69 v4 v5 v6 v7 v8 v10 v11 T) : V G X T 136 [(0, .ref (gad G 13)), (1, .int (zI v1)), (2, .int (zI v2)), (3, .int (zI v3)), (4, .int (zI v4)), (5, .int (zI v5)), (6, .int (zI v6)), (7, .int (zI v7)), (8, .int (zI v8)), (10, .int (zI v10)), (11, .int (zI v11))] [] := by
  unfold b_X9_lies_136 at h
  refine v_iconst C dX9_lies_136 ?_
  refine v_goto (tgt := 141) C dX9_lies_137 (by decide) ?_
  exact v_sub [0, 1, 2, 3, 4, 5, 6, 7, 8, 9, 10] rfl (t_X9_lies_141 C E k55 k69 h)
set_option maxRecDepth 100000 in
theorem t_X9_lies_109 {G : GT} {l0 : Launch} {X : CX} (C : CT G l0 X cX9_lies 12 RX9 (rM 2 46)) {Q : Int → TH → Prop} (E : EN G X (some .int) (QI G Q)) {v1 : Int} {v2 : Int} {v3 : Int} {K55 : Int → Int → Int → Int → TH → Prop} {K69 : Int → Int → Int → Int → Int → Bool → Int → TH → Prop} (k55 : ∀ (v4 : Int) (v5 : Int) (v6 : Int) (v7 : Int) (T : TH), K55 v4 v5 v6 v7 T → V G X T 55 [(0, .ref (gad G 13)), (1, .int (zI v1)), (2, .int (zI v2)), (3, .int (zI v3)), (4, .int (zI v4)), (5, .int (zI v5)), (6, .int (zI v6)), (7, .int (zI v7))] []) (k69 : ∀ (v4 : Int) (v5 : Int) (v6 : Int) (v7 : Int) (v8 : Int) (z9 : Bool) (v10 : Int) (T : TH), K69 v4 v5 v6 v7 v8 z9 v10 T → V G X T 69 [(0, .ref (gad G 13)), (1, .int (zI v1)), (2, .int (zI v2)), (3, .int (zI v3)), (4, .int (zI v4)), (5, .int (zI v5)), (6, .int (zI v6)), (7, .int (zI v7)), (8, .int (zI v8)), (9, .int (zI (zi z9))), (10, .int (zI v10))] []) {v4 : Int} {v5 : Int} {v6 : Int} {v7 : Int} {v8 : Int} {z9 : Bool} {v10 : Int} {s0 : Int} {T : TH} (h : b_X9_lies_109 v1 v2 v3 Q K55 K69 v4 v5 v6 v7 v8 z9 v10 s0 T) : V G X T 109 [(0, .ref (gad G 13)), (1, .int (zI v1)), (2, .int (zI v2)), (3, .int (zI v3)), (4, .int (zI v4)), (5, .int (zI v5)), (6, .int (zI v6)), (7, .int (zI v7)), (8, .int (zI v8)), (9, .int (zI (zi z9))), (10, .int (zI v10))] [.int (zI s0)] := by
  unfold b_X9_lies_109 at h
  refine v_istore C dX9_lies_109 (by decide) ?_
  refine v_iload C 10 dX9_lies_111 rfl ?_
  obtain ⟨e1, e2⟩ := h
  refine v_ifz_eq (tgt := 140) C dX9_lies_113 (by decide) (fun e3 => ?_) (fun e3 => ?_)
  · have h := e1 e3
    exact v_sub [1, 2, 3, 4, 5, 6, 7, 8, 9, 11, 0] rfl (t_X9_lies_140 C E k55 k69 h)
  · have h := e2 e3
    refine v_aload_n C 1 dX9_lies_116 rfl ?_
    refine v_iload C 11 dX9_lies_117 rfl ?_
    refine v_cVI C kX9 rfl (s_X9_personOf G l0 h) mv_X9_personOf wd_1009 ⟨by decide, by decide⟩ rfl rfl (Nat.le_of_ble_eq_true rfl) dX9_lies_119 (fun r2 T1 h => ?_)
    refine v_iload_n C 2 dX9_lies_122 rfl ?_
    obtain ⟨e4, e5, e6, e7⟩ := h
    refine v_icmp_eq (tgt := 136) C dX9_lies_123 (by decide) e4 e5 (fun e8 => ?_) (fun e8 => ?_)
    · have h := e6 e8
      exact v_sub [1, 2, 3, 4, 5, 6, 7, 8, 9, 11, 0] rfl (t_X9_lies_136 C E k55 k69 h)
    · have h := e7 e8
      refine v_iload C 8 dX9_lies_126 rfl ?_
      refine v_iload C 11 dX9_lies_128 rfl ?_
      refine v_cSZ C (s_X9_has G l0 h) mv_X9_has wd_986 ⟨by decide, by decide⟩ rfl rfl (Nat.le_of_ble_eq_true rfl) dX9_lies_130 (fun p4 T3 h => ?_)
      obtain ⟨e9, e10⟩ := h
      refine v_ifz_ne (tgt := 140) C dX9_lies_133 (by decide) (fun e11 => ?_) (fun e11 => ?_)
      · have h := e9 e11
        exact v_sub [1, 2, 3, 4, 5, 6, 7, 8, 9, 11, 0] rfl (t_X9_lies_140 C E k55 k69 h)
      · have h := e10 e11
        exact v_sub [1, 2, 3, 4, 5, 6, 7, 8, 9, 11, 0] rfl (t_X9_lies_136 C E k55 k69 h)
set_option maxRecDepth 100000 in
theorem t_X9_lies_69 {G : GT} {l0 : Launch} {X : CX} (C : CT G l0 X cX9_lies 12 RX9 (rM 2 46)) {Q : Int → TH → Prop} (E : EN G X (some .int) (QI G Q)) {v1 : Int} {v2 : Int} {v3 : Int} {K55 : Int → Int → Int → Int → TH → Prop} (k55 : ∀ (v4 : Int) (v5 : Int) (v6 : Int) (v7 : Int) (T : TH), K55 v4 v5 v6 v7 T → V G X T 55 [(0, .ref (gad G 13)), (1, .int (zI v1)), (2, .int (zI v2)), (3, .int (zI v3)), (4, .int (zI v4)), (5, .int (zI v5)), (6, .int (zI v6)), (7, .int (zI v7))] []) : ∀ (n : Nat) (v4 : Int) (v5 : Int) (v6 : Int) (v7 : Int) (v8 : Int) (z9 : Bool) (v10 : Int) (T : TH), h_X9_lies_69 v1 v2 v3 Q K55 n v4 v5 v6 v7 v8 z9 v10 T → V G X T 69 [(0, .ref (gad G 13)), (1, .int (zI v1)), (2, .int (zI v2)), (3, .int (zI v3)), (4, .int (zI v4)), (5, .int (zI v5)), (6, .int (zI v6)), (7, .int (zI v7)), (8, .int (zI v8)), (9, .int (zI (zi z9))), (10, .int (zI v10))] [] := by
  intro n
  induction n with
  | zero =>
    intro v4 v5 v6 v7 v8 z9 v10 T h
    exact h.elim
  | succ n ih =>
    intro v4 v5 v6 v7 v8 z9 v10 T h
    rw [h_X9_lies_69] at h
    refine v_iload C 10 dX9_lies_69 rfl ?_
    refine v_aload_n C 0 dX9_lies_71 rfl ?_
    refine v_getI C kX9 18 rfl rfl wd_834 rfl dX9_lies_72 ?_
    obtain ⟨e1, e2, e3, e4⟩ := h
    refine v_icmp_ge (tgt := 172) C dX9_lies_75 (by decide) e1 e2 (fun e5 => ?_) (fun e5 => ?_)
    · have h := e3 e5
      refine v_iload C 9 dX9_lies_172 rfl ?_
      obtain ⟨e6, e7⟩ := h
      refine v_ifz_eq (tgt := 207) C dX9_lies_174 (by decide) (fun e8 => ?_) (fun e8 => ?_)
      · have h := e6 e8
        exact v_sub [0, 1, 2, 3, 4, 5, 6, 7] rfl (t_X9_lies_207 C E k55 h)
      · have h := e7 e8
        refine v_iload C 8 dX9_lies_177 rfl ?_
        refine v_iload_n C 2 dX9_lies_179 rfl ?_
        obtain ⟨e9, e10, e11, e12⟩ := h
        refine v_icmp_ne (tgt := 207) C dX9_lies_180 (by decide) e9 e10 (fun e13 => ?_) (fun e13 => ?_)
        · have h := e11 e13
          exact v_sub [0, 1, 2, 3, 4, 5, 6, 7] rfl (t_X9_lies_207 C E k55 h)
        · have h := e12 e13
          refine v_iload C 4 dX9_lies_183 rfl ?_
          obtain ⟨e14, e15, e16⟩ := h
          refine v_if_ne (tgt := 193) C dX9_lies_185 (by decide) e14 (fun e17 => ?_) (fun e17 => ?_)
          · have h := e15 e17
            refine v_iload C 6 dX9_lies_193 rfl ?_
            refine v_iload C 7 dX9_lies_195 rfl ?_
            refine v_iand C dX9_lies_197 ?_
            exact v_sub [0, 1, 2, 3, 4, 7] rfl (t_X9_lies_198 C E k55 h)
          · have h := e16 e17
            refine v_iload C 7 dX9_lies_188 rfl ?_
            refine v_goto (tgt := 198) C dX9_lies_190 (by decide) ?_
            exact v_sub [0, 1, 2, 3, 4, 7] rfl (t_X9_lies_198 C E k55 h)
    · have h := e4 e5
      refine v_aload_n C 0 dX9_lies_78 rfl ?_
      refine v_iload C 10 dX9_lies_79 rfl ?_
      refine v_cVI C kX9 rfl (s_X9_personOf G l0 h) mv_X9_personOf wd_1009 ⟨by decide, by decide⟩ rfl rfl (Nat.le_of_ble_eq_true rfl) dX9_lies_81 (fun r2 T1 h => ?_)
      refine v_iload_n C 1 dX9_lies_84 rfl ?_
      obtain ⟨e18, e19, e20, e21⟩ := h
      refine v_icmp_ne (tgt := 108) C dX9_lies_85 (by decide) e18 e19 (fun e22 => ?_) (fun e22 => ?_)
      · have h := e20 e22
        refine v_iconst C dX9_lies_108 ?_
        exact v_sub [0, 1, 2, 3, 4, 5, 6, 7, 8, 9, 10] rfl (t_X9_lies_109 C E k55 ih h)
      · have h := e21 e22
        refine v_aload_n C 0 dX9_lies_88 rfl ?_
        refine v_iload C 10 dX9_lies_89 rfl ?_
        refine v_cVI C kX9 rfl (s_X9_gramsOf G l0 h) mv_X9_gramsOf wd_1053 ⟨by decide, by decide⟩ rfl rfl (Nat.le_of_ble_eq_true rfl) dX9_lies_91 (fun r4 T3 h => ?_)
        refine v_aload_n C 0 dX9_lies_94 rfl ?_
        refine v_aload_n C 0 dX9_lies_95 rfl ?_
        refine v_getA C kX9 26 rfl rfl wd_842 rfl dX9_lies_96 ?_
        refine v_iload C 10 dX9_lies_99 rfl ?_
        refine v_cVI C kX9 rfl (s_X9_headsOf G l0 (ar_of (o := 13) rfl ar_9_26) h) mv_X9_headsOf wd_1005 ⟨by decide, by decide⟩ rfl rfl (Nat.le_of_ble_eq_true rfl) dX9_lies_101 (fun r6 T5 h => ?_)
        refine v_imul C dX9_lies_104 ?_
        refine v_goto (tgt := 109) C dX9_lies_105 (by decide) ?_
        exact v_sub [0, 1, 2, 3, 4, 5, 6, 7, 8, 9, 10] rfl (t_X9_lies_109 C E k55 ih h)
set_option maxRecDepth 100000 in
theorem t_X9_lies_55 {G : GT} {l0 : Launch} {X : CX} (C : CT G l0 X cX9_lies 12 RX9 (rM 2 46)) {Q : Int → TH → Prop} (E : EN G X (some .int) (QI G Q)) {v1 : Int} {v2 : Int} {v3 : Int} : ∀ (n : Nat) (v4 : Int) (v5 : Int) (v6 : Int) (v7 : Int) (T : TH), h_X9_lies_55 v1 v2 v3 Q n v4 v5 v6 v7 T → V G X T 55 [(0, .ref (gad G 13)), (1, .int (zI v1)), (2, .int (zI v2)), (3, .int (zI v3)), (4, .int (zI v4)), (5, .int (zI v5)), (6, .int (zI v6)), (7, .int (zI v7))] [] := by
  intro n
  induction n with
  | zero =>
    intro v4 v5 v6 v7 T h
    exact h.elim
  | succ n ih =>
    intro v4 v5 v6 v7 T h
    rw [h_X9_lies_55] at h
    refine v_iload C 7 dX9_lies_55 rfl ?_
    obtain ⟨e1, e2, e3⟩ := h
    refine v_if_lt (tgt := 213) C dX9_lies_57 (by decide) e1 (fun e4 => ?_) (fun e4 => ?_)
    · have h := e2 e4
      refine v_iload_n C 3 dX9_lies_213 rfl ?_
      obtain ⟨e5, e6, e7⟩ := h
      refine v_if_ne (tgt := 222) C dX9_lies_214 (by decide) e5 (fun e8 => ?_) (fun e8 => ?_)
      · have h := e6 e8
        refine v_iload_n C 3 dX9_lies_222 rfl ?_
        refine v_iconst C dX9_lies_223 ?_
        obtain ⟨e9, e10, e11⟩ := h
        refine v_icmp_ne (tgt := 232) C dX9_lies_224 (by decide) e9 ⟨by decide, by decide⟩ (fun e12 => ?_) (fun e12 => ?_)
        · have h := e10 e12
          refine v_iload C 6 dX9_lies_232 rfl ?_
          exact v_iret C E dX9_lies_234 h
        · have h := e11 e12
          refine v_iload C 5 dX9_lies_227 rfl ?_
          refine v_goto (tgt := 234) C dX9_lies_229 (by decide) ?_
          exact v_iret C E dX9_lies_234 h
      · have h := e7 e8
        refine v_iload C 4 dX9_lies_217 rfl ?_
        refine v_goto (tgt := 234) C dX9_lies_219 (by decide) ?_
        exact v_iret C E dX9_lies_234 h
    · have h := e3 e4
      refine v_iconst C dX9_lies_60 ?_
      refine v_istore C dX9_lies_61 (by decide) ?_
      refine v_iconst C dX9_lies_63 ?_
      refine v_istore C dX9_lies_64 (by decide) ?_
      refine v_iconst C dX9_lies_66 ?_
      refine v_istore C dX9_lies_67 (by decide) ?_
      obtain ⟨n9, h⟩ := h
      exact v_sub [3, 4, 5, 6, 7, 8, 9, 10, 2, 1, 0] rfl (t_X9_lies_69 C E ih n9 _ _ _ _ _ _ _ _ h)
set_option maxRecDepth 100000 in
theorem s_X9_lies (G : GT) (l0 : Launch) {v1 : Int} {v2 : Int} {v3 : Int} {T : TH} {Q : Int → TH → Prop} (h : wp_X9_lies v1 v2 v3 T Q) : MT G l0 yX9_lies cX9_lies 12 (some .int) 2 46 [.ref (gad G 13), .int (zI v1), .int (zI v2), .int (zI v3)] T (QI G Q) := by
  refine mt_of G l0 (by decide) (Nat.le_of_ble_eq_true rfl) (fun X C E => ?_)
  show V G X T 0 [(0, .ref (gad G 13)), (1, .int (zI v1)), (2, .int (zI v2)), (3, .int (zI v3))] []
  unfold wp_X9_lies at h
  refine v_aload_n C 0 dX9_lies_0 rfl ?_
  refine v_iload_n C 1 dX9_lies_1 rfl ?_
  refine v_cVZ C kX9 rfl (s_X9_isOne G l0 h) mv_X9_isOne wd_1033 ⟨by decide, by decide⟩ rfl rfl (Nat.le_of_ble_eq_true rfl) dX9_lies_2 (fun p2 T1 h => ?_)
  obtain ⟨e1, e2⟩ := h
  refine v_ifz_ne (tgt := 11) C dX9_lies_5 (by decide) (fun e3 => ?_) (fun e3 => ?_)
  · have h := e1 e3
    refine v_iload_n C 2 dX9_lies_11 rfl ?_
    refine v_sipush C dX9_lies_12 (by decide) ?_
    refine v_sipush C dX9_lies_15 (by decide) ?_
    refine v_cSZ C (s_X9_in G l0 h) mv_X9_in wd_937 ⟨by decide, by decide⟩ rfl rfl (Nat.le_of_ble_eq_true rfl) dX9_lies_18 (fun p4 T3 h => ?_)
    obtain ⟨e4, e5⟩ := h
    refine v_ifz_eq (tgt := 33) C dX9_lies_21 (by decide) (fun e6 => ?_) (fun e6 => ?_)
    · have h := e4 e6
      refine v_ldc (n := -1000000002) C dX9_lies_33 wd_940 (by decide) ?_
      exact v_iret C E dX9_lies_35 h
    · have h := e5 e6
      refine v_iload_n C 3 dX9_lies_24 rfl ?_
      refine v_iconst C dX9_lies_25 ?_
      refine v_iconst C dX9_lies_26 ?_
      refine v_cSZ C (s_X9_in G l0 h) mv_X9_in wd_937 ⟨by decide, by decide⟩ rfl rfl (Nat.le_of_ble_eq_true rfl) dX9_lies_27 (fun p6 T5 h => ?_)
      obtain ⟨e7, e8⟩ := h
      refine v_ifz_ne (tgt := 36) C dX9_lies_30 (by decide) (fun e9 => ?_) (fun e9 => ?_)
      · have h := e7 e9
        refine v_iconst C dX9_lies_36 ?_
        refine v_istore C dX9_lies_37 (by decide) ?_
        refine v_iconst C dX9_lies_39 ?_
        refine v_istore C dX9_lies_40 (by decide) ?_
        refine v_iconst C dX9_lies_42 ?_
        refine v_istore C dX9_lies_43 (by decide) ?_
        refine v_iconst C dX9_lies_45 ?_
        refine v_aload_n C 3 dX9_lies_46 rfl ?_
        refine v_getI C kX9 18 rfl rfl wd_834 rfl dX9_lies_47 ?_
        refine v_ishl C dX9_lies_50 ?_
        refine v_iconst C dX9_lies_51 ?_
        refine v_isub C dX9_lies_52 ?_
        refine v_istore C dX9_lies_53 (by decide) ?_
        have h := h _ rfl
        obtain ⟨n9, h⟩ := h
        exact v_sub [4, 5, 6, 7, 3, 2, 1, 0] rfl (t_X9_lies_55 C E n9 _ _ _ _ _ h)
      · have h := e8 e9
        refine v_ldc (n := -1000000002) C dX9_lies_33 wd_940 (by decide) ?_
        exact v_iret C E dX9_lies_35 h
  · have h := e2 e3
    refine v_ldc (n := -1000000001) C dX9_lies_8 wd_1024 (by decide) ?_
    exact v_iret C E dX9_lies_10 h
def b_X9_canCome_145 (v1 : Int) (v2 : Int) (v3 : Int) (Q : Bool → TH → Prop) (K14 : Int → Int → TH → Prop) (K29 : Int → Int → Int → Int → TH → Prop) (v4 : Int) (v5 : Int) (v7 : Int) (s0 : Int) (s1 : Int) (T : TH) : Prop :=
  ∀ w1 : Int, w1 = (zor s0 s1) → K29 v4 v5 w1 (v7 + 1) T
def b_X9_canCome_144 (v1 : Int) (v2 : Int) (v3 : Int) (Q : Bool → TH → Prop) (K14 : Int → Int → TH → Prop) (K29 : Int → Int → Int → Int → TH → Prop) (v4 : Int) (v5 : Int) (v7 : Int) (s0 : Int) (T : TH) : Prop :=
  b_X9_canCome_145 v1 v2 v3 Q K14 K29 v4 v5 v7 s0 0 T
def b_X9_canCome_110 (v1 : Int) (v2 : Int) (v3 : Int) (Q : Bool → TH → Prop) (K14 : Int → Int → TH → Prop) (K29 : Int → Int → Int → Int → TH → Prop) (v4 : Int) (v5 : Int) (v7 : Int) (v8 : Int) (v9 : Int) (z10 : Bool) (s0 : Int) (s1 : Int) (T : TH) : Prop :=
  ∀ w1 : Int, w1 = (zor s0 s1) → (z10 = false → (b_X9_canCome_144 v1 v2 v3 Q K14 K29 v4 v5 v7 w1 T)) ∧ (z10 = true → (wp_X9_has (zand v4 (zxor (T 13 22 0) (-1))) v9 T (fun p3 T2 => (p3 = false → (b_X9_canCome_144 v1 v2 v3 Q K14 K29 v4 v5 v7 w1 T2)) ∧ (p3 = true → (b_X9_canCome_145 v1 v2 v3 Q K14 K29 v4 v5 v7 w1 (zshl 1 v8) T2)))))
def b_X9_canCome_109 (v1 : Int) (v2 : Int) (v3 : Int) (Q : Bool → TH → Prop) (K14 : Int → Int → TH → Prop) (K29 : Int → Int → Int → Int → TH → Prop) (v4 : Int) (v5 : Int) (v7 : Int) (v8 : Int) (v9 : Int) (z10 : Bool) (s0 : Int) (T : TH) : Prop :=
  b_X9_canCome_110 v1 v2 v3 Q K14 K29 v4 v5 v7 v8 v9 z10 s0 0 T
def b_X9_canCome_76 (v1 : Int) (v2 : Int) (v3 : Int) (Q : Bool → TH → Prop) (K14 : Int → Int → TH → Prop) (K29 : Int → Int → Int → Int → TH → Prop) (v4 : Int) (v5 : Int) (v6 : Int) (v7 : Int) (v8 : Int) (v9 : Int) (y0 : Bool) (T : TH) : Prop :=
  (y0 = false → (b_X9_canCome_109 v1 v2 v3 Q K14 K29 v4 v5 v7 v8 v9 y0 v6 T)) ∧ (y0 = true → (wp_X9_has (zand v4 (zxor (T 13 22 0) (-1))) v8 T (fun p2 T1 => (p2 = false → (b_X9_canCome_109 v1 v2 v3 Q K14 K29 v4 v5 v7 v8 v9 y0 v6 T1)) ∧ (p2 = true → (b_X9_canCome_110 v1 v2 v3 Q K14 K29 v4 v5 v7 v8 v9 y0 v6 (zshl 1 v9) T1)))))
def h_X9_canCome_29 (v1 : Int) (v2 : Int) (v3 : Int) (Q : Bool → TH → Prop) (K14 : Int → Int → TH → Prop) : Nat → Int → Int → Int → Int → TH → Prop
  | 0, _, _, _, _, _ => False
  | n + 1, v4, v5, v6, v7, T => zR v7 ∧ zR (T 13 20 0) ∧ ((T 13 20 0) ≤ v7 → (∀ w1 : Int, w1 = (zor v4 v6) → K14 w1 (v5 + 1) T)) ∧ (¬ ((T 13 20 0) ≤ v7) → (0 ≤ (2 * v7) ∧ (2 * v7) < 24 ∧ ∀ w2 : Int, w2 = (T 13 21 (2 * v7)) → 0 ≤ ((2 * v7) + 1) ∧ ((2 * v7) + 1) < 24 ∧ ∀ w3 : Int, w3 = (T 13 21 ((2 * v7) + 1)) → wp_X9_has v3 v7 T (fun p5 T4 => (p5 = true → (b_X9_canCome_76 v1 v2 v3 Q K14 (h_X9_canCome_29 v1 v2 v3 Q K14 n) v4 v5 v6 v7 w2 w3 false T4)) ∧ (p5 = false → (b_X9_canCome_76 v1 v2 v3 Q K14 (h_X9_canCome_29 v1 v2 v3 Q K14 n) v4 v5 v6 v7 w2 w3 true T4)))))
def h_X9_canCome_14 (v1 : Int) (v2 : Int) (v3 : Int) (Q : Bool → TH → Prop) : Nat → Int → Int → TH → Prop
  | 0, _, _, _ => False
  | n + 1, v4, v5, T => zR v5 ∧ zR (T 13 17 0) ∧ ((T 13 17 0) ≤ v5 → (wp_X9_has v4 v2 T (fun p2 T1 => Q p2 T1))) ∧ (¬ ((T 13 17 0) ≤ v5) → ((∃ m9 : Nat, h_X9_canCome_29 v1 v2 v3 Q (h_X9_canCome_14 v1 v2 v3 Q n) m9 v4 v5 0 0 T)))
def wp_X9_canCome (v1 : Int) (v2 : Int) (v3 : Int) (T : TH) (Q : Bool → TH → Prop) : Prop :=
  wp_X9_knowersOf 13 26 58 v1 T (fun r2 T1 => (∃ m9 : Nat, h_X9_canCome_14 v1 v2 v3 Q m9 r2 0 T1))
set_option maxRecDepth 100000 in
theorem t_X9_canCome_145 {G : GT} {l0 : Launch} {X : CX} (C : CT G l0 X cX9_canCome 11 RX9 (rM 2 46)) {Q : Bool → TH → Prop} (E : EN G X (some .boolean) (QZ G Q)) {v1 : Int} {v2 : Int} {v3 : Int} {K14 : Int → Int → TH → Prop} {K29 : Int → Int → Int → Int → TH → Prop} (k14 : ∀ (v4 : Int) (v5 : Int) (T : TH), K14 v4 v5 T → V G X T 14 [(0, .ref (gad G 13)), (1, .int (zI v1)), (2, .int (zI v2)), (3, .int (zI v3)), (4, .int (zI v4)), (5, .int (zI v5))] []) (k29 : ∀ (v4 : Int) (v5 : Int) (v6 : Int) (v7 : Int) (T : TH), K29 v4 v5 v6 v7 T → V G X T 29 [(0, .ref (gad G 13)), (1, .int (zI v1)), (2, .int (zI v2)), (3, .int (zI v3)), (4, .int (zI v4)), (5, .int (zI v5)), (6, .int (zI v6)), (7, .int (zI v7))] []) {v4 : Int} {v5 : Int} {v7 : Int} {s0 : Int} {s1 : Int} {T : TH} (h : b_X9_canCome_145 v1 v2 v3 Q K14 K29 v4 v5 v7 s0 s1 T) : V G X T 145 [(0, .ref (gad G 13)), (1, .int (zI v1)), (2, .int (zI v2)), (3, .int (zI v3)), (4, .int (zI v4)), (5, .int (zI v5)), (7, .int (zI v7))] [.int (zI s1), .int (zI s0)] := by
  unfold b_X9_canCome_145 at h
  refine v_ior C dX9_canCome_145 ?_
  refine v_istore C dX9_canCome_146 (by decide) ?_
  have h := h _ rfl
  refine v_iinc C 7 dX9_canCome_148 rfl (by decide) ?_
  refine v_goto (tgt := 29) C dX9_canCome_151 (by decide) ?_
  exact v_sub [2, 3, 4, 5, 6, 7, 1, 0] rfl (k29 _ _ _ _ _ h)
set_option maxRecDepth 100000 in
theorem t_X9_canCome_144 {G : GT} {l0 : Launch} {X : CX} (C : CT G l0 X cX9_canCome 11 RX9 (rM 2 46)) {Q : Bool → TH → Prop} (E : EN G X (some .boolean) (QZ G Q)) {v1 : Int} {v2 : Int} {v3 : Int} {K14 : Int → Int → TH → Prop} {K29 : Int → Int → Int → Int → TH → Prop} (k14 : ∀ (v4 : Int) (v5 : Int) (T : TH), K14 v4 v5 T → V G X T 14 [(0, .ref (gad G 13)), (1, .int (zI v1)), (2, .int (zI v2)), (3, .int (zI v3)), (4, .int (zI v4)), (5, .int (zI v5))] []) (k29 : ∀ (v4 : Int) (v5 : Int) (v6 : Int) (v7 : Int) (T : TH), K29 v4 v5 v6 v7 T → V G X T 29 [(0, .ref (gad G 13)), (1, .int (zI v1)), (2, .int (zI v2)), (3, .int (zI v3)), (4, .int (zI v4)), (5, .int (zI v5)), (6, .int (zI v6)), (7, .int (zI v7))] []) {v4 : Int} {v5 : Int} {v7 : Int} {s0 : Int} {T : TH} (h : b_X9_canCome_144 v1 v2 v3 Q K14 K29 v4 v5 v7 s0 T) : V G X T 144 [(0, .ref (gad G 13)), (1, .int (zI v1)), (2, .int (zI v2)), (3, .int (zI v3)), (4, .int (zI v4)), (5, .int (zI v5)), (7, .int (zI v7))] [.int (zI s0)] := by
  unfold b_X9_canCome_144 at h
  refine v_iconst C dX9_canCome_144 ?_
  exact v_sub [0, 1, 2, 3, 4, 5, 6] rfl (t_X9_canCome_145 C E k14 k29 h)
set_option maxRecDepth 100000 in
theorem t_X9_canCome_110 {G : GT} {l0 : Launch} {X : CX} (C : CT G l0 X cX9_canCome 11 RX9 (rM 2 46)) {Q : Bool → TH → Prop} (E : EN G X (some .boolean) (QZ G Q)) {v1 : Int} {v2 : Int} {v3 : Int} {K14 : Int → Int → TH → Prop} {K29 : Int → Int → Int → Int → TH → Prop} (k14 : ∀ (v4 : Int) (v5 : Int) (T : TH), K14 v4 v5 T → V G X T 14 [(0, .ref (gad G 13)), (1, .int (zI v1)), (2, .int (zI v2)), (3, .int (zI v3)), (4, .int (zI v4)), (5, .int (zI v5))] []) (k29 : ∀ (v4 : Int) (v5 : Int) (v6 : Int) (v7 : Int) (T : TH), K29 v4 v5 v6 v7 T → V G X T 29 [(0, .ref (gad G 13)), (1, .int (zI v1)), (2, .int (zI v2)), (3, .int (zI v3)), (4, .int (zI v4)), (5, .int (zI v5)), (6, .int (zI v6)), (7, .int (zI v7))] []) {v4 : Int} {v5 : Int} {v7 : Int} {v8 : Int} {v9 : Int} {z10 : Bool} {s0 : Int} {s1 : Int} {T : TH} (h : b_X9_canCome_110 v1 v2 v3 Q K14 K29 v4 v5 v7 v8 v9 z10 s0 s1 T) : V G X T 110 [(0, .ref (gad G 13)), (1, .int (zI v1)), (2, .int (zI v2)), (3, .int (zI v3)), (4, .int (zI v4)), (5, .int (zI v5)), (7, .int (zI v7)), (8, .int (zI v8)), (9, .int (zI v9)), (10, .int (zI (zi z10)))] [.int (zI s1), .int (zI s0)] := by
  unfold b_X9_canCome_110 at h
  refine v_ior C dX9_canCome_110 ?_
  refine v_istore C dX9_canCome_111 (by decide) ?_
  have h := h _ rfl
  refine v_iload C 0 dX9_canCome_113 rfl ?_
  refine v_iload C 10 dX9_canCome_115 rfl ?_
  obtain ⟨e1, e2⟩ := h
  refine v_ifz_eq (tgt := 144) C dX9_canCome_117 (by decide) (fun e3 => ?_) (fun e3 => ?_)
  · have h := e1 e3
    exact v_sub [1, 2, 3, 4, 5, 6, 7] rfl (t_X9_canCome_144 C E k14 k29 h)
  · have h := e2 e3
    refine v_iload C 5 dX9_canCome_120 rfl ?_
    refine v_aload_n C 1 dX9_canCome_122 rfl ?_
    refine v_getI C kX9 22 rfl rfl wd_838 rfl dX9_canCome_123 ?_
    refine v_iconst C dX9_canCome_126 ?_
    refine v_ixor C dX9_canCome_127 ?_
    refine v_iand C dX9_canCome_128 ?_
    refine v_iload C 9 dX9_canCome_129 rfl ?_
    refine v_cSZ C (s_X9_has G l0 h) mv_X9_has wd_986 ⟨by decide, by decide⟩ rfl rfl (Nat.le_of_ble_eq_true rfl) dX9_canCome_131 (fun p3 T2 h => ?_)
    obtain ⟨e4, e5⟩ := h
    refine v_ifz_eq (tgt := 144) C dX9_canCome_134 (by decide) (fun e6 => ?_) (fun e6 => ?_)
    · have h := e4 e6
      exact v_sub [1, 2, 3, 4, 5, 6, 7] rfl (t_X9_canCome_144 C E k14 k29 h)
    · have h := e5 e6
      refine v_iconst C dX9_canCome_137 ?_
      refine v_iload C 8 dX9_canCome_138 rfl ?_
      refine v_ishl C dX9_canCome_140 ?_
      refine v_goto (tgt := 145) C dX9_canCome_141 (by decide) ?_
      exact v_sub [1, 2, 3, 4, 5, 6, 7] rfl (t_X9_canCome_145 C E k14 k29 h)
set_option maxRecDepth 100000 in
theorem t_X9_canCome_109 {G : GT} {l0 : Launch} {X : CX} (C : CT G l0 X cX9_canCome 11 RX9 (rM 2 46)) {Q : Bool → TH → Prop} (E : EN G X (some .boolean) (QZ G Q)) {v1 : Int} {v2 : Int} {v3 : Int} {K14 : Int → Int → TH → Prop} {K29 : Int → Int → Int → Int → TH → Prop} (k14 : ∀ (v4 : Int) (v5 : Int) (T : TH), K14 v4 v5 T → V G X T 14 [(0, .ref (gad G 13)), (1, .int (zI v1)), (2, .int (zI v2)), (3, .int (zI v3)), (4, .int (zI v4)), (5, .int (zI v5))] []) (k29 : ∀ (v4 : Int) (v5 : Int) (v6 : Int) (v7 : Int) (T : TH), K29 v4 v5 v6 v7 T → V G X T 29 [(0, .ref (gad G 13)), (1, .int (zI v1)), (2, .int (zI v2)), (3, .int (zI v3)), (4, .int (zI v4)), (5, .int (zI v5)), (6, .int (zI v6)), (7, .int (zI v7))] []) {v4 : Int} {v5 : Int} {v7 : Int} {v8 : Int} {v9 : Int} {z10 : Bool} {s0 : Int} {T : TH} (h : b_X9_canCome_109 v1 v2 v3 Q K14 K29 v4 v5 v7 v8 v9 z10 s0 T) : V G X T 109 [(0, .ref (gad G 13)), (1, .int (zI v1)), (2, .int (zI v2)), (3, .int (zI v3)), (4, .int (zI v4)), (5, .int (zI v5)), (7, .int (zI v7)), (8, .int (zI v8)), (9, .int (zI v9)), (10, .int (zI (zi z10)))] [.int (zI s0)] := by
  unfold b_X9_canCome_109 at h
  refine v_iconst C dX9_canCome_109 ?_
  exact v_sub [0, 1, 2, 3, 4, 5, 6, 7, 8, 9] rfl (t_X9_canCome_110 C E k14 k29 h)
set_option maxRecDepth 100000 in
theorem t_X9_canCome_76 {G : GT} {l0 : Launch} {X : CX} (C : CT G l0 X cX9_canCome 11 RX9 (rM 2 46)) {Q : Bool → TH → Prop} (E : EN G X (some .boolean) (QZ G Q)) {v1 : Int} {v2 : Int} {v3 : Int} {K14 : Int → Int → TH → Prop} {K29 : Int → Int → Int → Int → TH → Prop} (k14 : ∀ (v4 : Int) (v5 : Int) (T : TH), K14 v4 v5 T → V G X T 14 [(0, .ref (gad G 13)), (1, .int (zI v1)), (2, .int (zI v2)), (3, .int (zI v3)), (4, .int (zI v4)), (5, .int (zI v5))] []) (k29 : ∀ (v4 : Int) (v5 : Int) (v6 : Int) (v7 : Int) (T : TH), K29 v4 v5 v6 v7 T → V G X T 29 [(0, .ref (gad G 13)), (1, .int (zI v1)), (2, .int (zI v2)), (3, .int (zI v3)), (4, .int (zI v4)), (5, .int (zI v5)), (6, .int (zI v6)), (7, .int (zI v7))] []) {v4 : Int} {v5 : Int} {v6 : Int} {v7 : Int} {v8 : Int} {v9 : Int} {y0 : Bool} {T : TH} (h : b_X9_canCome_76 v1 v2 v3 Q K14 K29 v4 v5 v6 v7 v8 v9 y0 T) : V G X T 76 [(0, .ref (gad G 13)), (1, .int (zI v1)), (2, .int (zI v2)), (3, .int (zI v3)), (4, .int (zI v4)), (5, .int (zI v5)), (6, .int (zI v6)), (7, .int (zI v7)), (8, .int (zI v8)), (9, .int (zI v9))] [.int (zI (zi y0))] := by
  unfold b_X9_canCome_76 at h
  refine v_istore C dX9_canCome_76 (by decide) ?_
  refine v_iload C 7 dX9_canCome_78 rfl ?_
  refine v_iload C 0 dX9_canCome_80 rfl ?_
  obtain ⟨e1, e2⟩ := h
  refine v_ifz_eq (tgt := 109) C dX9_canCome_82 (by decide) (fun e3 => ?_) (fun e3 => ?_)
  · have h := e1 e3
    exact v_sub [1, 2, 3, 4, 5, 6, 8, 9, 10, 0] rfl (t_X9_canCome_109 C E k14 k29 h)
  · have h := e2 e3
    refine v_iload C 5 dX9_canCome_85 rfl ?_
    refine v_aload_n C 1 dX9_canCome_87 rfl ?_
    refine v_getI C kX9 22 rfl rfl wd_838 rfl dX9_canCome_88 ?_
    refine v_iconst C dX9_canCome_91 ?_
    refine v_ixor C dX9_canCome_92 ?_
    refine v_iand C dX9_canCome_93 ?_
    refine v_iload C 9 dX9_canCome_94 rfl ?_
    refine v_cSZ C (s_X9_has G l0 h) mv_X9_has wd_986 ⟨by decide, by decide⟩ rfl rfl (Nat.le_of_ble_eq_true rfl) dX9_canCome_96 (fun p2 T1 h => ?_)
    obtain ⟨e4, e5⟩ := h
    refine v_ifz_eq (tgt := 109) C dX9_canCome_99 (by decide) (fun e6 => ?_) (fun e6 => ?_)
    · have h := e4 e6
      exact v_sub [1, 2, 3, 4, 5, 6, 8, 9, 10, 0] rfl (t_X9_canCome_109 C E k14 k29 h)
    · have h := e5 e6
      refine v_iconst C dX9_canCome_102 ?_
      refine v_iload C 10 dX9_canCome_103 rfl ?_
      refine v_ishl C dX9_canCome_105 ?_
      refine v_goto (tgt := 110) C dX9_canCome_106 (by decide) ?_
      exact v_sub [1, 2, 3, 4, 5, 6, 8, 9, 10, 0] rfl (t_X9_canCome_110 C E k14 k29 h)
set_option maxRecDepth 100000 in
theorem t_X9_canCome_29 {G : GT} {l0 : Launch} {X : CX} (C : CT G l0 X cX9_canCome 11 RX9 (rM 2 46)) {Q : Bool → TH → Prop} (E : EN G X (some .boolean) (QZ G Q)) {v1 : Int} {v2 : Int} {v3 : Int} {K14 : Int → Int → TH → Prop} (k14 : ∀ (v4 : Int) (v5 : Int) (T : TH), K14 v4 v5 T → V G X T 14 [(0, .ref (gad G 13)), (1, .int (zI v1)), (2, .int (zI v2)), (3, .int (zI v3)), (4, .int (zI v4)), (5, .int (zI v5))] []) : ∀ (n : Nat) (v4 : Int) (v5 : Int) (v6 : Int) (v7 : Int) (T : TH), h_X9_canCome_29 v1 v2 v3 Q K14 n v4 v5 v6 v7 T → V G X T 29 [(0, .ref (gad G 13)), (1, .int (zI v1)), (2, .int (zI v2)), (3, .int (zI v3)), (4, .int (zI v4)), (5, .int (zI v5)), (6, .int (zI v6)), (7, .int (zI v7))] [] := by
  intro n
  induction n with
  | zero =>
    intro v4 v5 v6 v7 T h
    exact h.elim
  | succ n ih =>
    intro v4 v5 v6 v7 T h
    rw [h_X9_canCome_29] at h
    refine v_iload C 7 dX9_canCome_29 rfl ?_
    refine v_aload_n C 0 dX9_canCome_31 rfl ?_
    refine v_getI C kX9 20 rfl rfl wd_836 rfl dX9_canCome_32 ?_
    obtain ⟨e1, e2, e3, e4⟩ := h
    refine v_icmp_ge (tgt := 154) C dX9_canCome_35 (by decide) e1 e2 (fun e5 => ?_) (fun e5 => ?_)
    · have h := e3 e5
      refine v_iload C 4 dX9_canCome_154 rfl ?_
      refine v_iload C 6 dX9_canCome_156 rfl ?_
      refine v_ior C dX9_canCome_158 ?_
      refine v_istore C dX9_canCome_159 (by decide) ?_
      have h := h _ rfl
      refine v_iinc C 5 dX9_canCome_161 rfl (by decide) ?_
      refine v_goto (tgt := 14) C dX9_canCome_164 (by decide) ?_
      exact v_sub [2, 3, 4, 5, 1, 0] rfl (k14 _ _ _ h)
    · have h := e4 e5
      refine v_aload_n C 0 dX9_canCome_38 rfl ?_
      refine v_getA C kX9 21 rfl rfl wd_837 rfl dX9_canCome_39 ?_
      refine v_iconst C dX9_canCome_42 ?_
      refine v_iload C 7 dX9_canCome_43 rfl ?_
      refine v_imul C dX9_canCome_45 ?_
      obtain ⟨e6, e7, h⟩ := h
      refine v_iald C (ar_of (o := 13) rfl ar_9_21) dX9_canCome_46 e6 e7 ?_
      refine v_istore C dX9_canCome_47 (by decide) ?_
      have h := h _ rfl
      refine v_aload_n C 1 dX9_canCome_49 rfl ?_
      refine v_getA C kX9 21 rfl rfl wd_837 rfl dX9_canCome_50 ?_
      refine v_iconst C dX9_canCome_53 ?_
      refine v_iload C 8 dX9_canCome_54 rfl ?_
      refine v_imul C dX9_canCome_56 ?_
      refine v_iconst C dX9_canCome_57 ?_
      refine v_iadd C dX9_canCome_58 ?_
      obtain ⟨e8, e9, h⟩ := h
      refine v_iald C (ar_of (o := 13) rfl ar_9_21) dX9_canCome_59 e8 e9 ?_
      refine v_istore C dX9_canCome_60 (by decide) ?_
      have h := h _ rfl
      refine v_iload_n C 5 dX9_canCome_62 rfl ?_
      refine v_iload C 9 dX9_canCome_63 rfl ?_
      refine v_cSZ C (s_X9_has G l0 h) mv_X9_has wd_986 ⟨by decide, by decide⟩ rfl rfl (Nat.le_of_ble_eq_true rfl) dX9_canCome_65 (fun p5 T4 h => ?_)
      obtain ⟨e10, e11⟩ := h
      refine v_ifz_ne (tgt := 75) C dX9_canCome_68 (by decide) (fun e12 => ?_) (fun e12 => ?_)
      · have h := e10 e12
        refine v_iconst C dX9_canCome_75 ?_
        exact v_sub [2, 3, 4, 5, 6, 7, 8, 9, 1, 0] rfl (t_X9_canCome_76 C E k14 ih h)
      · have h := e11 e12
        refine v_iconst C dX9_canCome_71 ?_
        refine v_goto (tgt := 76) C dX9_canCome_72 (by decide) ?_
        exact v_sub [2, 3, 4, 5, 6, 7, 8, 9, 1, 0] rfl (t_X9_canCome_76 C E k14 ih h)
set_option maxRecDepth 100000 in
theorem t_X9_canCome_14 {G : GT} {l0 : Launch} {X : CX} (C : CT G l0 X cX9_canCome 11 RX9 (rM 2 46)) {Q : Bool → TH → Prop} (E : EN G X (some .boolean) (QZ G Q)) {v1 : Int} {v2 : Int} {v3 : Int} : ∀ (n : Nat) (v4 : Int) (v5 : Int) (T : TH), h_X9_canCome_14 v1 v2 v3 Q n v4 v5 T → V G X T 14 [(0, .ref (gad G 13)), (1, .int (zI v1)), (2, .int (zI v2)), (3, .int (zI v3)), (4, .int (zI v4)), (5, .int (zI v5))] [] := by
  intro n
  induction n with
  | zero =>
    intro v4 v5 T h
    exact h.elim
  | succ n ih =>
    intro v4 v5 T h
    rw [h_X9_canCome_14] at h
    refine v_iload C 5 dX9_canCome_14 rfl ?_
    refine v_aload_n C 0 dX9_canCome_16 rfl ?_
    refine v_getI C kX9 17 rfl rfl wd_833 rfl dX9_canCome_17 ?_
    obtain ⟨e1, e2, e3, e4⟩ := h
    refine v_icmp_ge (tgt := 167) C dX9_canCome_20 (by decide) e1 e2 (fun e5 => ?_) (fun e5 => ?_)
    · have h := e3 e5
      refine v_iload C 4 dX9_canCome_167 rfl ?_
      refine v_iload_n C 2 dX9_canCome_169 rfl ?_
      refine v_cSZ C (s_X9_has G l0 h) mv_X9_has wd_986 ⟨by decide, by decide⟩ rfl rfl (Nat.le_of_ble_eq_true rfl) dX9_canCome_170 (fun p2 T1 h => ?_)
      exact v_zret (z := p2) C E dX9_canCome_173 h
    · have h := e4 e5
      refine v_iconst C dX9_canCome_23 ?_
      refine v_istore C dX9_canCome_24 (by decide) ?_
      refine v_iconst C dX9_canCome_26 ?_
      refine v_istore C dX9_canCome_27 (by decide) ?_
      obtain ⟨n9, h⟩ := h
      exact v_sub [2, 3, 4, 5, 6, 7, 1, 0] rfl (t_X9_canCome_29 C E ih n9 _ _ _ _ _ h)
set_option maxRecDepth 100000 in
theorem s_X9_canCome (G : GT) (l0 : Launch) {v1 : Int} {v2 : Int} {v3 : Int} {T : TH} {Q : Bool → TH → Prop} (h : wp_X9_canCome v1 v2 v3 T Q) : MT G l0 yX9_canCome cX9_canCome 11 (some .boolean) 2 46 [.ref (gad G 13), .int (zI v1), .int (zI v2), .int (zI v3)] T (QZ G Q) := by
  refine mt_of G l0 (by decide) (Nat.le_of_ble_eq_true rfl) (fun X C E => ?_)
  show V G X T 0 [(0, .ref (gad G 13)), (1, .int (zI v1)), (2, .int (zI v2)), (3, .int (zI v3))] []
  unfold wp_X9_canCome at h
  refine v_aload_n C 0 dX9_canCome_0 rfl ?_
  refine v_aload_n C 0 dX9_canCome_1 rfl ?_
  refine v_getA C kX9 26 rfl rfl wd_842 rfl dX9_canCome_2 ?_
  refine v_iload_n C 1 dX9_canCome_5 rfl ?_
  refine v_cVI C kX9 rfl (s_X9_knowersOf G l0 (ar_of (o := 13) rfl ar_9_26) h) mv_X9_knowersOf wd_1025 ⟨by decide, by decide⟩ rfl rfl (Nat.le_of_ble_eq_true rfl) dX9_canCome_6 (fun r2 T1 h => ?_)
  refine v_istore C dX9_canCome_9 (by decide) ?_
  refine v_iconst C dX9_canCome_11 ?_
  refine v_istore C dX9_canCome_12 (by decide) ?_
  obtain ⟨n9, h⟩ := h
  exact v_sub [2, 3, 4, 5, 1, 0] rfl (t_X9_canCome_14 C E n9 _ _ _ h)
def h_X9_bits_4 (v0 : Int) (Q : Int → TH → Prop) : Nat → Int → Int → TH → Prop
  | 0, _, _, _ => False
  | n + 1, v1, v2, T => zR v2 ∧ (12 ≤ v2 → (Q v1 T)) ∧ (¬ (12 ≤ v2) → (∀ w1 : Int, w1 = (v1 + (zand (zshr v0 v2) 1)) → (h_X9_bits_4 v0 Q n) w1 (v2 + 1) T))
def wp_X9_bits (v0 : Int) (T : TH) (Q : Int → TH → Prop) : Prop :=
  (∃ m9 : Nat, h_X9_bits_4 v0 Q m9 0 0 T)
set_option maxRecDepth 100000 in
theorem t_X9_bits_4 {G : GT} {l0 : Launch} {X : CX} (C : CT G l0 X cX9_bits 3 RX9 (rM 0 0)) {Q : Int → TH → Prop} (E : EN G X (some .int) (QI G Q)) {v0 : Int} : ∀ (n : Nat) (v1 : Int) (v2 : Int) (T : TH), h_X9_bits_4 v0 Q n v1 v2 T → V G X T 4 [(0, .int (zI v0)), (1, .int (zI v1)), (2, .int (zI v2))] [] := by
  intro n
  induction n with
  | zero =>
    intro v1 v2 T h
    exact h.elim
  | succ n ih =>
    intro v1 v2 T h
    rw [h_X9_bits_4] at h
    refine v_iload_n C 2 dX9_bits_4 rfl ?_
    refine v_bipush C dX9_bits_5 (by decide) ?_
    obtain ⟨e1, e2, e3⟩ := h
    refine v_icmp_ge (tgt := 24) C dX9_bits_7 (by decide) e1 ⟨by decide, by decide⟩ (fun e4 => ?_) (fun e4 => ?_)
    · have h := e2 e4
      refine v_iload_n C 1 dX9_bits_24 rfl ?_
      exact v_iret C E dX9_bits_25 h
    · have h := e3 e4
      refine v_iload_n C 1 dX9_bits_10 rfl ?_
      refine v_iload_n C 0 dX9_bits_11 rfl ?_
      refine v_iload_n C 2 dX9_bits_12 rfl ?_
      refine v_ishr C dX9_bits_13 ?_
      refine v_iconst C dX9_bits_14 ?_
      refine v_iand C dX9_bits_15 ?_
      refine v_iadd C dX9_bits_16 ?_
      refine v_istore_n C dX9_bits_17 rfl (by decide) ?_
      have h := h _ rfl
      refine v_iinc C 2 dX9_bits_18 rfl (by decide) ?_
      refine v_goto (tgt := 4) C dX9_bits_21 (by decide) ?_
      exact v_sub [2, 1, 0] rfl (ih _ _ _ h)
set_option maxRecDepth 100000 in
theorem s_X9_bits (G : GT) (l0 : Launch) {v0 : Int} {T : TH} {Q : Int → TH → Prop} (h : wp_X9_bits v0 T Q) : MT G l0 yX9_bits cX9_bits 3 (some .int) 0 0 [.int (zI v0)] T (QI G Q) := by
  refine mt_of G l0 (by decide) (Nat.le_of_ble_eq_true rfl) (fun X C E => ?_)
  show V G X T 0 [(0, .int (zI v0))] []
  unfold wp_X9_bits at h
  refine v_iconst C dX9_bits_0 ?_
  refine v_istore_n C dX9_bits_1 rfl (by decide) ?_
  refine v_iconst C dX9_bits_2 ?_
  refine v_istore_n C dX9_bits_3 rfl (by decide) ?_
  obtain ⟨n9, h⟩ := h
  exact v_sub [2, 1, 0] rfl (t_X9_bits_4 C E n9 _ _ _ h)
def b_X9_apart_96 (v1 : Int) (v2 : Int) (v3 : Int) (Q : Int → TH → Prop) (K60 : Int → Int → TH → Prop) (v5 : Int) (s0 : Int) (T : TH) : Prop :=
  K60 s0 (v5 + (-1)) T
def b_X9_apart_94 (v1 : Int) (v2 : Int) (v3 : Int) (Q : Int → TH → Prop) (K60 : Int → Int → TH → Prop) (v4 : Int) (v5 : Int) (T : TH) : Prop :=
  b_X9_apart_96 v1 v2 v3 Q K60 v5 v4 T
def h_X9_apart_60 (v1 : Int) (v2 : Int) (v3 : Int) (Q : Int → TH → Prop) : Nat → Int → Int → TH → Prop
  | 0, _, _, _ => False
  | n + 1, v4, v5, T => zR v5 ∧ (v5 < 0 → (zR v3 ∧ (¬ v3 = 0 → (Q v4 T)) ∧ (v3 = 0 → (wp_X9_bits v4 T (fun r2 T1 => Q r2 T1))))) ∧ (¬ (v5 < 0) → (wp_X9_bits v5 T (fun r4 T3 => wp_X9_bits v4 T3 (fun r6 T5 => zR r4 ∧ zR r6 ∧ (r6 < r4 → (b_X9_apart_94 v1 v2 v3 Q (h_X9_apart_60 v1 v2 v3 Q n) v4 v5 T5)) ∧ (¬ (r6 < r4) → (wp_X9_canCome v1 v2 v5 T5 (fun p8 T7 => (p8 = true → (b_X9_apart_94 v1 v2 v3 Q (h_X9_apart_60 v1 v2 v3 Q n) v4 v5 T7)) ∧ (p8 = false → (b_X9_apart_96 v1 v2 v3 Q (h_X9_apart_60 v1 v2 v3 Q n) v5 v5 T7)))))))))
def wp_X9_apart (v1 : Int) (v2 : Int) (v3 : Int) (T : TH) (Q : Int → TH → Prop) : Prop :=
  wp_X9_isFact v1 T (fun p2 T1 => (p2 = false → (Q (-1000000001) T1)) ∧ (p2 = true → (wp_X9_isOne v2 T1 (fun p4 T3 => (p4 = true → (wp_X9_in v3 0 1 T3 (fun p6 T5 => (p6 = true → (wp_X9_knows 13 26 58 v2 v1 T5 (fun p8 T7 => (p8 = false → (∀ w9 : Int, w9 = ((zshl 1 (T7 13 20 0)) - 1) → (∃ m9 : Nat, h_X9_apart_60 v1 v2 v3 Q m9 w9 w9 T7))) ∧ (p8 = true → (Q (-1000000003) T7))))) ∧ (p6 = false → (Q (-1000000002) T5))))) ∧ (p4 = false → (Q (-1000000001) T3))))))
set_option maxRecDepth 100000 in
theorem t_X9_apart_96 {G : GT} {l0 : Launch} {X : CX} (C : CT G l0 X cX9_apart 6 RX9 (rM 3 76)) {Q : Int → TH → Prop} (E : EN G X (some .int) (QI G Q)) {v1 : Int} {v2 : Int} {v3 : Int} {K60 : Int → Int → TH → Prop} (k60 : ∀ (v4 : Int) (v5 : Int) (T : TH), K60 v4 v5 T → V G X T 60 [(0, .ref (gad G 13)), (1, .int (zI v1)), (2, .int (zI v2)), (3, .int (zI v3)), (4, .int (zI v4)), (5, .int (zI v5))] []) {v5 : Int} {s0 : Int} {T : TH} (h : b_X9_apart_96 v1 v2 v3 Q K60 v5 s0 T) : V G X T 96 [(0, .ref (gad G 13)), (1, .int (zI v1)), (2, .int (zI v2)), (3, .int (zI v3)), (5, .int (zI v5))] [.int (zI s0)] := by
  unfold b_X9_apart_96 at h
  refine v_istore C dX9_apart_96 (by decide) ?_
  refine v_iinc C 5 dX9_apart_98 rfl (by decide) ?_
  refine v_goto (tgt := 60) C dX9_apart_101 (by decide) ?_
  exact v_sub [2, 3, 4, 5, 1, 0] rfl (k60 _ _ _ h)
set_option maxRecDepth 100000 in
theorem t_X9_apart_94 {G : GT} {l0 : Launch} {X : CX} (C : CT G l0 X cX9_apart 6 RX9 (rM 3 76)) {Q : Int → TH → Prop} (E : EN G X (some .int) (QI G Q)) {v1 : Int} {v2 : Int} {v3 : Int} {K60 : Int → Int → TH → Prop} (k60 : ∀ (v4 : Int) (v5 : Int) (T : TH), K60 v4 v5 T → V G X T 60 [(0, .ref (gad G 13)), (1, .int (zI v1)), (2, .int (zI v2)), (3, .int (zI v3)), (4, .int (zI v4)), (5, .int (zI v5))] []) {v4 : Int} {v5 : Int} {T : TH} (h : b_X9_apart_94 v1 v2 v3 Q K60 v4 v5 T) : V G X T 94 [(0, .ref (gad G 13)), (1, .int (zI v1)), (2, .int (zI v2)), (3, .int (zI v3)), (4, .int (zI v4)), (5, .int (zI v5))] [] := by
  unfold b_X9_apart_94 at h
  refine v_iload C 4 dX9_apart_94 rfl ?_
  exact v_sub [0, 1, 2, 3, 5] rfl (t_X9_apart_96 C E k60 h)
set_option maxRecDepth 100000 in
theorem t_X9_apart_60 {G : GT} {l0 : Launch} {X : CX} (C : CT G l0 X cX9_apart 6 RX9 (rM 3 76)) {Q : Int → TH → Prop} (E : EN G X (some .int) (QI G Q)) {v1 : Int} {v2 : Int} {v3 : Int} : ∀ (n : Nat) (v4 : Int) (v5 : Int) (T : TH), h_X9_apart_60 v1 v2 v3 Q n v4 v5 T → V G X T 60 [(0, .ref (gad G 13)), (1, .int (zI v1)), (2, .int (zI v2)), (3, .int (zI v3)), (4, .int (zI v4)), (5, .int (zI v5))] [] := by
  intro n
  induction n with
  | zero =>
    intro v4 v5 T h
    exact h.elim
  | succ n ih =>
    intro v4 v5 T h
    rw [h_X9_apart_60] at h
    refine v_iload C 5 dX9_apart_60 rfl ?_
    obtain ⟨e1, e2, e3⟩ := h
    refine v_if_lt (tgt := 104) C dX9_apart_62 (by decide) e1 (fun e4 => ?_) (fun e4 => ?_)
    · have h := e2 e4
      refine v_iload_n C 3 dX9_apart_104 rfl ?_
      obtain ⟨e5, e6, e7⟩ := h
      refine v_if_ne (tgt := 116) C dX9_apart_105 (by decide) e5 (fun e8 => ?_) (fun e8 => ?_)
      · have h := e6 e8
        refine v_iload C 4 dX9_apart_116 rfl ?_
        exact v_iret C E dX9_apart_118 h
      · have h := e7 e8
        refine v_iload C 4 dX9_apart_108 rfl ?_
        refine v_cSI C (s_X9_bits G l0 h) mv_X9_bits wd_1154 ⟨by decide, by decide⟩ rfl rfl (Nat.le_of_ble_eq_true rfl) dX9_apart_110 (fun r2 T1 h => ?_)
        refine v_goto (tgt := 118) C dX9_apart_113 (by decide) ?_
        exact v_iret C E dX9_apart_118 h
    · have h := e3 e4
      refine v_iload C 5 dX9_apart_65 rfl ?_
      refine v_cSI C (s_X9_bits G l0 h) mv_X9_bits wd_1154 ⟨by decide, by decide⟩ rfl rfl (Nat.le_of_ble_eq_true rfl) dX9_apart_67 (fun r4 T3 h => ?_)
      refine v_iload C 4 dX9_apart_70 rfl ?_
      refine v_cSI C (s_X9_bits G l0 h) mv_X9_bits wd_1154 ⟨by decide, by decide⟩ rfl rfl (Nat.le_of_ble_eq_true rfl) dX9_apart_72 (fun r6 T5 h => ?_)
      obtain ⟨e9, e10, e11, e12⟩ := h
      refine v_icmp_gt (tgt := 94) C dX9_apart_75 (by decide) e9 e10 (fun e13 => ?_) (fun e13 => ?_)
      · have h := e11 e13
        exact v_sub [0, 1, 2, 3, 4, 5] rfl (t_X9_apart_94 C E ih h)
      · have h := e12 e13
        refine v_aload_n C 0 dX9_apart_78 rfl ?_
        refine v_iload_n C 1 dX9_apart_79 rfl ?_
        refine v_iload_n C 2 dX9_apart_80 rfl ?_
        refine v_iload C 5 dX9_apart_81 rfl ?_
        refine v_cVZ C kX9 rfl (s_X9_canCome G l0 h) mv_X9_canCome wd_1157 ⟨by decide, by decide⟩ rfl rfl (Nat.le_of_ble_eq_true rfl) dX9_apart_83 (fun p8 T7 h => ?_)
        obtain ⟨e14, e15⟩ := h
        refine v_ifz_ne (tgt := 94) C dX9_apart_86 (by decide) (fun e16 => ?_) (fun e16 => ?_)
        · have h := e14 e16
          exact v_sub [0, 1, 2, 3, 4, 5] rfl (t_X9_apart_94 C E ih h)
        · have h := e15 e16
          refine v_iload C 5 dX9_apart_89 rfl ?_
          refine v_goto (tgt := 96) C dX9_apart_91 (by decide) ?_
          exact v_sub [0, 1, 2, 3, 5] rfl (t_X9_apart_96 C E ih h)
set_option maxRecDepth 100000 in
theorem s_X9_apart (G : GT) (l0 : Launch) {v1 : Int} {v2 : Int} {v3 : Int} {T : TH} {Q : Int → TH → Prop} (h : wp_X9_apart v1 v2 v3 T Q) : MT G l0 yX9_apart cX9_apart 6 (some .int) 3 76 [.ref (gad G 13), .int (zI v1), .int (zI v2), .int (zI v3)] T (QI G Q) := by
  refine mt_of G l0 (by decide) (Nat.le_of_ble_eq_true rfl) (fun X C E => ?_)
  show V G X T 0 [(0, .ref (gad G 13)), (1, .int (zI v1)), (2, .int (zI v2)), (3, .int (zI v3))] []
  unfold wp_X9_apart at h
  refine v_aload_n C 0 dX9_apart_0 rfl ?_
  refine v_iload_n C 1 dX9_apart_1 rfl ?_
  refine v_cVZ C kX9 rfl (s_X9_isFact G l0 h) mv_X9_isFact wd_1020 ⟨by decide, by decide⟩ rfl rfl (Nat.le_of_ble_eq_true rfl) dX9_apart_2 (fun p2 T1 h => ?_)
  obtain ⟨e1, e2⟩ := h
  refine v_ifz_eq (tgt := 16) C dX9_apart_5 (by decide) (fun e3 => ?_) (fun e3 => ?_)
  · have h := e1 e3
    refine v_ldc (n := -1000000001) C dX9_apart_16 wd_1024 (by decide) ?_
    exact v_iret C E dX9_apart_18 h
  · have h := e2 e3
    refine v_aload_n C 0 dX9_apart_8 rfl ?_
    refine v_iload_n C 2 dX9_apart_9 rfl ?_
    refine v_cVZ C kX9 rfl (s_X9_isOne G l0 h) mv_X9_isOne wd_1033 ⟨by decide, by decide⟩ rfl rfl (Nat.le_of_ble_eq_true rfl) dX9_apart_10 (fun p4 T3 h => ?_)
    obtain ⟨e4, e5⟩ := h
    refine v_ifz_ne (tgt := 19) C dX9_apart_13 (by decide) (fun e6 => ?_) (fun e6 => ?_)
    · have h := e4 e6
      refine v_iload_n C 3 dX9_apart_19 rfl ?_
      refine v_iconst C dX9_apart_20 ?_
      refine v_iconst C dX9_apart_21 ?_
      refine v_cSZ C (s_X9_in G l0 h) mv_X9_in wd_937 ⟨by decide, by decide⟩ rfl rfl (Nat.le_of_ble_eq_true rfl) dX9_apart_22 (fun p6 T5 h => ?_)
      obtain ⟨e7, e8⟩ := h
      refine v_ifz_ne (tgt := 31) C dX9_apart_25 (by decide) (fun e9 => ?_) (fun e9 => ?_)
      · have h := e7 e9
        refine v_aload_n C 0 dX9_apart_31 rfl ?_
        refine v_getA C kX9 26 rfl rfl wd_842 rfl dX9_apart_32 ?_
        refine v_iload_n C 2 dX9_apart_35 rfl ?_
        refine v_iload_n C 1 dX9_apart_36 rfl ?_
        refine v_cSZ C (s_X9_knows G l0 (ar_of (o := 13) rfl ar_9_26) h) mv_X9_knows wd_1013 ⟨by decide, by decide⟩ rfl rfl (Nat.le_of_ble_eq_true rfl) dX9_apart_37 (fun p8 T7 h => ?_)
        obtain ⟨e10, e11⟩ := h
        refine v_ifz_eq (tgt := 46) C dX9_apart_40 (by decide) (fun e12 => ?_) (fun e12 => ?_)
        · have h := e10 e12
          refine v_iconst C dX9_apart_46 ?_
          refine v_aload_n C 0 dX9_apart_47 rfl ?_
          refine v_getI C kX9 20 rfl rfl wd_836 rfl dX9_apart_48 ?_
          refine v_ishl C dX9_apart_51 ?_
          refine v_iconst C dX9_apart_52 ?_
          refine v_isub C dX9_apart_53 ?_
          refine v_istore C dX9_apart_54 (by decide) ?_
          have h := h _ rfl
          refine v_iload C 0 dX9_apart_56 rfl ?_
          refine v_istore C dX9_apart_58 (by decide) ?_
          obtain ⟨n9, h⟩ := h
          exact v_sub [2, 3, 4, 5, 1, 0] rfl (t_X9_apart_60 C E n9 _ _ _ h)
        · have h := e11 e12
          refine v_ldc (n := -1000000003) C dX9_apart_43 wd_1073 (by decide) ?_
          exact v_iret C E dX9_apart_45 h
      · have h := e8 e9
        refine v_ldc (n := -1000000002) C dX9_apart_28 wd_940 (by decide) ?_
        exact v_iret C E dX9_apart_30 h
    · have h := e5 e6
      refine v_ldc (n := -1000000001) C dX9_apart_16 wd_1024 (by decide) ?_
      exact v_iret C E dX9_apart_18 h
def b_X9_forgotten_147 (v1 : Int) (v2 : Int) (v3 : Int) (Q : Int → TH → Prop) (K13 : Int → Int → TH → Prop) (v5 : Int) (s0 : Int) (T : TH) : Prop :=
  K13 s0 (v5 + (-1)) T
def b_X9_forgotten_145 (v1 : Int) (v2 : Int) (v3 : Int) (Q : Int → TH → Prop) (K13 : Int → Int → TH → Prop) (v4 : Int) (v5 : Int) (T : TH) : Prop :=
  b_X9_forgotten_147 v1 v2 v3 Q K13 v5 v4 T
def b_X9_forgotten_120 (v1 : Int) (v2 : Int) (v3 : Int) (Q : Int → TH → Prop) (K13 : Int → Int → TH → Prop) (K27 : Int → Int → Int → Bool → Int → TH → Prop) (v4 : Int) (v5 : Int) (z7 : Bool) (v8 : Int) (s0 : Int) (s1 : Int) (T : TH) : Prop :=
  ∀ w1 : Int, w1 = (s0 + s1) → K27 v4 v5 w1 z7 (v8 + 1) T
def b_X9_forgotten_101 (v1 : Int) (v2 : Int) (v3 : Int) (Q : Int → TH → Prop) (K13 : Int → Int → TH → Prop) (K27 : Int → Int → Int → Bool → Int → TH → Prop) (v4 : Int) (v5 : Int) (v6 : Int) (v8 : Int) (z9 : Bool) (y0 : Bool) (T : TH) : Prop :=
  (z9 = false → (b_X9_forgotten_120 v1 v2 v3 Q K13 K27 v4 v5 y0 v8 v6 0 T)) ∧ (z9 = true → (wp_X9_gramsOf v8 T (fun r2 T1 => b_X9_forgotten_120 v1 v2 v3 Q K13 K27 v4 v5 y0 v8 v6 r2 T1)))
def b_X9_forgotten_100 (v1 : Int) (v2 : Int) (v3 : Int) (Q : Int → TH → Prop) (K13 : Int → Int → TH → Prop) (K27 : Int → Int → Int → Bool → Int → TH → Prop) (v4 : Int) (v5 : Int) (v6 : Int) (v8 : Int) (z9 : Bool) (T : TH) : Prop :=
  b_X9_forgotten_101 v1 v2 v3 Q K13 K27 v4 v5 v6 v8 z9 false T
def b_X9_forgotten_96 (v1 : Int) (v2 : Int) (v3 : Int) (Q : Int → TH → Prop) (K13 : Int → Int → TH → Prop) (K27 : Int → Int → Int → Bool → Int → TH → Prop) (v4 : Int) (v5 : Int) (v6 : Int) (v8 : Int) (z9 : Bool) (T : TH) : Prop :=
  b_X9_forgotten_101 v1 v2 v3 Q K13 K27 v4 v5 v6 v8 z9 true T
def b_X9_forgotten_52 (v1 : Int) (v2 : Int) (v3 : Int) (Q : Int → TH → Prop) (K13 : Int → Int → TH → Prop) (K27 : Int → Int → Int → Bool → Int → TH → Prop) (v4 : Int) (v5 : Int) (v6 : Int) (z7 : Bool) (v8 : Int) (y0 : Bool) (T : TH) : Prop :=
  (z7 = false → (b_X9_forgotten_100 v1 v2 v3 Q K13 K27 v4 v5 v6 v8 y0 T)) ∧ (z7 = true → ((y0 = false → (b_X9_forgotten_96 v1 v2 v3 Q K13 K27 v4 v5 v6 v8 y0 T)) ∧ (y0 = true → (wp_X9_personOf v8 T (fun r2 T1 => zR r2 ∧ zR v2 ∧ (¬ r2 = v2 → (b_X9_forgotten_100 v1 v2 v3 Q K13 K27 v4 v5 v6 v8 y0 T1)) ∧ (r2 = v2 → (wp_X9_knows 13 26 58 v1 v8 T1 (fun p4 T3 => (p4 = false → (b_X9_forgotten_100 v1 v2 v3 Q K13 K27 v4 v5 v6 v8 y0 T3)) ∧ (p4 = true → (wp_X9_isLie v8 T3 (fun p6 T5 => (p6 = true → (b_X9_forgotten_100 v1 v2 v3 Q K13 K27 v4 v5 v6 v8 y0 T5)) ∧ (p6 = false → (b_X9_forgotten_96 v1 v2 v3 Q K13 K27 v4 v5 v6 v8 y0 T5)))))))))))))
def h_X9_forgotten_27 (v1 : Int) (v2 : Int) (v3 : Int) (Q : Int → TH → Prop) (K13 : Int → Int → TH → Prop) : Nat → Int → Int → Int → Bool → Int → TH → Prop
  | 0, _, _, _, _, _, _ => False
  | n + 1, v4, v5, v6, z7, v8, T => zR v8 ∧ zR (T 13 18 0) ∧ ((T 13 18 0) ≤ v8 → ((z7 = false → (b_X9_forgotten_145 v1 v2 v3 Q K13 v4 v5 T)) ∧ (z7 = true → (zR v6 ∧ zR v3 ∧ (¬ v6 = v3 → (b_X9_forgotten_145 v1 v2 v3 Q K13 v4 v5 T)) ∧ (v6 = v3 → (b_X9_forgotten_147 v1 v2 v3 Q K13 v5 v5 T)))))) ∧ (¬ ((T 13 18 0) ≤ v8) → (zR (zand (zshr v5 v8) 1) ∧ (¬ (zand (zshr v5 v8) 1) = 1 → (b_X9_forgotten_52 v1 v2 v3 Q K13 (h_X9_forgotten_27 v1 v2 v3 Q K13 n) v4 v5 v6 z7 v8 false T)) ∧ ((zand (zshr v5 v8) 1) = 1 → (b_X9_forgotten_52 v1 v2 v3 Q K13 (h_X9_forgotten_27 v1 v2 v3 Q K13 n) v4 v5 v6 z7 v8 true T))))
def h_X9_forgotten_13 (v1 : Int) (v2 : Int) (v3 : Int) (Q : Int → TH → Prop) : Nat → Int → Int → TH → Prop
  | 0, _, _, _ => False
  | n + 1, v4, v5, T => zR v5 ∧ (v5 < 0 → (Q v4 T)) ∧ (¬ (v5 < 0) → ((∃ m9 : Nat, h_X9_forgotten_27 v1 v2 v3 Q (h_X9_forgotten_13 v1 v2 v3 Q n) m9 v4 v5 0 true 0 T)))
def wp_X9_forgotten (v1 : Int) (v2 : Int) (v3 : Int) (T : TH) (Q : Int → TH → Prop) : Prop :=
  ∀ w1 : Int, w1 = ((zshl 1 (T 13 18 0)) - 1) → (∃ m9 : Nat, h_X9_forgotten_13 v1 v2 v3 Q m9 (-1) w1 T)
set_option maxRecDepth 100000 in
theorem t_X9_forgotten_147 {G : GT} {l0 : Launch} {X : CX} (C : CT G l0 X cX9_forgotten 10 RX9 (rM 1 22)) {Q : Int → TH → Prop} (E : EN G X (some .int) (QI G Q)) {v1 : Int} {v2 : Int} {v3 : Int} {K13 : Int → Int → TH → Prop} (k13 : ∀ (v4 : Int) (v5 : Int) (T : TH), K13 v4 v5 T → V G X T 13 [(0, .ref (gad G 13)), (1, .int (zI v1)), (2, .int (zI v2)), (3, .int (zI v3)), (4, .int (zI v4)), (5, .int (zI v5))] []) {v5 : Int} {s0 : Int} {T : TH} (h : b_X9_forgotten_147 v1 v2 v3 Q K13 v5 s0 T) : V G X T 147 [(0, .ref (gad G 13)), (1, .int (zI v1)), (2, .int (zI v2)), (3, .int (zI v3)), (5, .int (zI v5))] [.int (zI s0)] := by
  unfold b_X9_forgotten_147 at h
  refine v_istore C dX9_forgotten_147 (by decide) ?_
  refine v_iinc C 5 dX9_forgotten_149 rfl (by decide) ?_
  refine v_goto (tgt := 13) C dX9_forgotten_152 (by decide) ?_
  exact v_sub [2, 3, 4, 5, 1, 0] rfl (k13 _ _ _ h)
set_option maxRecDepth 100000 in
theorem t_X9_forgotten_145 {G : GT} {l0 : Launch} {X : CX} (C : CT G l0 X cX9_forgotten 10 RX9 (rM 1 22)) {Q : Int → TH → Prop} (E : EN G X (some .int) (QI G Q)) {v1 : Int} {v2 : Int} {v3 : Int} {K13 : Int → Int → TH → Prop} (k13 : ∀ (v4 : Int) (v5 : Int) (T : TH), K13 v4 v5 T → V G X T 13 [(0, .ref (gad G 13)), (1, .int (zI v1)), (2, .int (zI v2)), (3, .int (zI v3)), (4, .int (zI v4)), (5, .int (zI v5))] []) {v4 : Int} {v5 : Int} {T : TH} (h : b_X9_forgotten_145 v1 v2 v3 Q K13 v4 v5 T) : V G X T 145 [(0, .ref (gad G 13)), (1, .int (zI v1)), (2, .int (zI v2)), (3, .int (zI v3)), (4, .int (zI v4)), (5, .int (zI v5))] [] := by
  unfold b_X9_forgotten_145 at h
  refine v_iload C 4 dX9_forgotten_145 rfl ?_
  exact v_sub [0, 1, 2, 3, 5] rfl (t_X9_forgotten_147 C E k13 h)
set_option maxRecDepth 100000 in
theorem t_X9_forgotten_120 {G : GT} {l0 : Launch} {X : CX} (C : CT G l0 X cX9_forgotten 10 RX9 (rM 1 22)) {Q : Int → TH → Prop} (E : EN G X (some .int) (QI G Q)) {v1 : Int} {v2 : Int} {v3 : Int} {K13 : Int → Int → TH → Prop} {K27 : Int → Int → Int → Bool → Int → TH → Prop} (k13 : ∀ (v4 : Int) (v5 : Int) (T : TH), K13 v4 v5 T → V G X T 13 [(0, .ref (gad G 13)), (1, .int (zI v1)), (2, .int (zI v2)), (3, .int (zI v3)), (4, .int (zI v4)), (5, .int (zI v5))] []) (k27 : ∀ (v4 : Int) (v5 : Int) (v6 : Int) (z7 : Bool) (v8 : Int) (T : TH), K27 v4 v5 v6 z7 v8 T → V G X T 27 [(0, .ref (gad G 13)), (1, .int (zI v1)), (2, .int (zI v2)), (3, .int (zI v3)), (4, .int (zI v4)), (5, .int (zI v5)), (6, .int (zI v6)), (7, .int (zI (zi z7))), (8, .int (zI v8))] []) {v4 : Int} {v5 : Int} {z7 : Bool} {v8 : Int} {s0 : Int} {s1 : Int} {T : TH} (h : b_X9_forgotten_120 v1 v2 v3 Q K13 K27 v4 v5 z7 v8 s0 s1 T) : V G X T 120 [(0, .ref (gad G 13)), (1, .int (zI v1)), (2, .int (zI v2)), (3, .int (zI v3)), (4, .int (zI v4)), (5, .int (zI v5)), (7, .int (zI (zi z7))), (8, .int (zI v8))] [.int (zI s1), .int (zI s0)] := by
  unfold b_X9_forgotten_120 at h
  refine v_iadd C dX9_forgotten_120 ?_
  refine v_istore C dX9_forgotten_121 (by decide) ?_
  have h := h _ rfl
  refine v_iinc C 8 dX9_forgotten_123 rfl (by decide) ?_
  refine v_goto (tgt := 27) C dX9_forgotten_126 (by decide) ?_
  exact v_sub [2, 3, 4, 5, 6, 7, 1, 8, 0] rfl (k27 _ _ _ _ _ _ h)
set_option maxRecDepth 100000 in
theorem t_X9_forgotten_101 {G : GT} {l0 : Launch} {X : CX} (C : CT G l0 X cX9_forgotten 10 RX9 (rM 1 22)) {Q : Int → TH → Prop} (E : EN G X (some .int) (QI G Q)) {v1 : Int} {v2 : Int} {v3 : Int} {K13 : Int → Int → TH → Prop} {K27 : Int → Int → Int → Bool → Int → TH → Prop} (k13 : ∀ (v4 : Int) (v5 : Int) (T : TH), K13 v4 v5 T → V G X T 13 [(0, .ref (gad G 13)), (1, .int (zI v1)), (2, .int (zI v2)), (3, .int (zI v3)), (4, .int (zI v4)), (5, .int (zI v5))] []) (k27 : ∀ (v4 : Int) (v5 : Int) (v6 : Int) (z7 : Bool) (v8 : Int) (T : TH), K27 v4 v5 v6 z7 v8 T → V G X T 27 [(0, .ref (gad G 13)), (1, .int (zI v1)), (2, .int (zI v2)), (3, .int (zI v3)), (4, .int (zI v4)), (5, .int (zI v5)), (6, .int (zI v6)), (7, .int (zI (zi z7))), (8, .int (zI v8))] []) {v4 : Int} {v5 : Int} {v6 : Int} {v8 : Int} {z9 : Bool} {y0 : Bool} {T : TH} (h : b_X9_forgotten_101 v1 v2 v3 Q K13 K27 v4 v5 v6 v8 z9 y0 T) : V G X T 101 [(0, .ref (gad G 13)), (1, .int (zI v1)), (2, .int (zI v2)), (3, .int (zI v3)), (4, .int (zI v4)), (5, .int (zI v5)), (6, .int (zI v6)), (8, .int (zI v8)), (9, .int (zI (zi z9)))] [.int (zI (zi y0))] := by
  unfold b_X9_forgotten_101 at h
  refine v_istore C dX9_forgotten_101 (by decide) ?_
  refine v_iload C 7 dX9_forgotten_103 rfl ?_
  refine v_iload C 9 dX9_forgotten_105 rfl ?_
  obtain ⟨e1, e2⟩ := h
  refine v_ifz_eq (tgt := 119) C dX9_forgotten_107 (by decide) (fun e3 => ?_) (fun e3 => ?_)
  · have h := e1 e3
    refine v_iconst C dX9_forgotten_119 ?_
    exact v_sub [1, 2, 3, 4, 5, 6, 0, 8] rfl (t_X9_forgotten_120 C E k13 k27 h)
  · have h := e2 e3
    refine v_aload_n C 1 dX9_forgotten_110 rfl ?_
    refine v_iload C 8 dX9_forgotten_111 rfl ?_
    refine v_cVI C kX9 rfl (s_X9_gramsOf G l0 h) mv_X9_gramsOf wd_1053 ⟨by decide, by decide⟩ rfl rfl (Nat.le_of_ble_eq_true rfl) dX9_forgotten_113 (fun r2 T1 h => ?_)
    refine v_goto (tgt := 120) C dX9_forgotten_116 (by decide) ?_
    exact v_sub [1, 2, 3, 4, 5, 6, 0, 8] rfl (t_X9_forgotten_120 C E k13 k27 h)
set_option maxRecDepth 100000 in
theorem t_X9_forgotten_100 {G : GT} {l0 : Launch} {X : CX} (C : CT G l0 X cX9_forgotten 10 RX9 (rM 1 22)) {Q : Int → TH → Prop} (E : EN G X (some .int) (QI G Q)) {v1 : Int} {v2 : Int} {v3 : Int} {K13 : Int → Int → TH → Prop} {K27 : Int → Int → Int → Bool → Int → TH → Prop} (k13 : ∀ (v4 : Int) (v5 : Int) (T : TH), K13 v4 v5 T → V G X T 13 [(0, .ref (gad G 13)), (1, .int (zI v1)), (2, .int (zI v2)), (3, .int (zI v3)), (4, .int (zI v4)), (5, .int (zI v5))] []) (k27 : ∀ (v4 : Int) (v5 : Int) (v6 : Int) (z7 : Bool) (v8 : Int) (T : TH), K27 v4 v5 v6 z7 v8 T → V G X T 27 [(0, .ref (gad G 13)), (1, .int (zI v1)), (2, .int (zI v2)), (3, .int (zI v3)), (4, .int (zI v4)), (5, .int (zI v5)), (6, .int (zI v6)), (7, .int (zI (zi z7))), (8, .int (zI v8))] []) {v4 : Int} {v5 : Int} {v6 : Int} {v8 : Int} {z9 : Bool} {T : TH} (h : b_X9_forgotten_100 v1 v2 v3 Q K13 K27 v4 v5 v6 v8 z9 T) : V G X T 100 [(0, .ref (gad G 13)), (1, .int (zI v1)), (2, .int (zI v2)), (3, .int (zI v3)), (4, .int (zI v4)), (5, .int (zI v5)), (6, .int (zI v6)), (8, .int (zI v8)), (9, .int (zI (zi z9)))] [] := by
  unfold b_X9_forgotten_100 at h
  refine v_iconst C dX9_forgotten_100 ?_
  exact v_sub [0, 1, 2, 3, 4, 5, 6, 7, 8] rfl (t_X9_forgotten_101 C E k13 k27 h)
set_option maxRecDepth 100000 in
theorem t_X9_forgotten_96 {G : GT} {l0 : Launch} {X : CX} (C : CT G l0 X cX9_forgotten 10 RX9 (rM 1 22)) {Q : Int → TH → Prop} (E : EN G X (some .int) (QI G Q)) {v1 : Int} {v2 : Int} {v3 : Int} {K13 : Int → Int → TH → Prop} {K27 : Int → Int → Int → Bool → Int → TH → Prop} (k13 : ∀ (v4 : Int) (v5 : Int) (T : TH), K13 v4 v5 T → V G X T 13 [(0, .ref (gad G 13)), (1, .int (zI v1)), (2, .int (zI v2)), (3, .int (zI v3)), (4, .int (zI v4)), (5, .int (zI v5))] []) (k27 : ∀ (v4 : Int) (v5 : Int) (v6 : Int) (z7 : Bool) (v8 : Int) (T : TH), K27 v4 v5 v6 z7 v8 T → V G X T 27 [(0, .ref (gad G 13)), (1, .int (zI v1)), (2, .int (zI v2)), (3, .int (zI v3)), (4, .int (zI v4)), (5, .int (zI v5)), (6, .int (zI v6)), (7, .int (zI (zi z7))), (8, .int (zI v8))] []) {v4 : Int} {v5 : Int} {v6 : Int} {v8 : Int} {z9 : Bool} {T : TH} (h : b_X9_forgotten_96 v1 v2 v3 Q K13 K27 v4 v5 v6 v8 z9 T) : V G X T 96 [(0, .ref (gad G 13)), (1, .int (zI v1)), (2, .int (zI v2)), (3, .int (zI v3)), (4, .int (zI v4)), (5, .int (zI v5)), (6, .int (zI v6)), (8, .int (zI v8)), (9, .int (zI (zi z9)))] [] := by
  unfold b_X9_forgotten_96 at h
  refine v_iconst C dX9_forgotten_96 ?_
  refine v_goto (tgt := 101) C dX9_forgotten_97 (by decide) ?_
  exact v_sub [0, 1, 2, 3, 4, 5, 6, 7, 8] rfl (t_X9_forgotten_101 C E k13 k27 h)
set_option maxRecDepth 100000 in
theorem t_X9_forgotten_52 {G : GT} {l0 : Launch} {X : CX} (C : CT G l0 X cX9_forgotten 10 RX9 (rM 1 22)) {Q : Int → TH → Prop} (E : EN G X (some .int) (QI G Q)) {v1 : Int} {v2 : Int} {v3 : Int} {K13 : Int → Int → TH → Prop} {K27 : Int → Int → Int → Bool → Int → TH → Prop} (k13 : ∀ (v4 : Int) (v5 : Int) (T : TH), K13 v4 v5 T → V G X T 13 [(0, .ref (gad G 13)), (1, .int (zI v1)), (2, .int (zI v2)), (3, .int (zI v3)), (4, .int (zI v4)), (5, .int (zI v5))] []) (k27 : ∀ (v4 : Int) (v5 : Int) (v6 : Int) (z7 : Bool) (v8 : Int) (T : TH), K27 v4 v5 v6 z7 v8 T → V G X T 27 [(0, .ref (gad G 13)), (1, .int (zI v1)), (2, .int (zI v2)), (3, .int (zI v3)), (4, .int (zI v4)), (5, .int (zI v5)), (6, .int (zI v6)), (7, .int (zI (zi z7))), (8, .int (zI v8))] []) {v4 : Int} {v5 : Int} {v6 : Int} {z7 : Bool} {v8 : Int} {y0 : Bool} {T : TH} (h : b_X9_forgotten_52 v1 v2 v3 Q K13 K27 v4 v5 v6 z7 v8 y0 T) : V G X T 52 [(0, .ref (gad G 13)), (1, .int (zI v1)), (2, .int (zI v2)), (3, .int (zI v3)), (4, .int (zI v4)), (5, .int (zI v5)), (6, .int (zI v6)), (7, .int (zI (zi z7))), (8, .int (zI v8))] [.int (zI (zi y0))] := by
  unfold b_X9_forgotten_52 at h
  refine v_istore C dX9_forgotten_52 (by decide) ?_
  refine v_iload C 8 dX9_forgotten_54 rfl ?_
  obtain ⟨e1, e2⟩ := h
  refine v_ifz_eq (tgt := 100) C dX9_forgotten_56 (by decide) (fun e3 => ?_) (fun e3 => ?_)
  · have h := e1 e3
    exact v_sub [1, 2, 3, 4, 5, 6, 7, 9, 0] rfl (t_X9_forgotten_100 C E k13 k27 h)
  · have h := e2 e3
    refine v_iload C 0 dX9_forgotten_59 rfl ?_
    obtain ⟨e4, e5⟩ := h
    refine v_ifz_eq (tgt := 96) C dX9_forgotten_61 (by decide) (fun e6 => ?_) (fun e6 => ?_)
    · have h := e4 e6
      exact v_sub [1, 2, 3, 4, 5, 6, 7, 9, 0] rfl (t_X9_forgotten_96 C E k13 k27 h)
    · have h := e5 e6
      refine v_aload_n C 1 dX9_forgotten_64 rfl ?_
      refine v_iload C 9 dX9_forgotten_65 rfl ?_
      refine v_cVI C kX9 rfl (s_X9_personOf G l0 h) mv_X9_personOf wd_1009 ⟨by decide, by decide⟩ rfl rfl (Nat.le_of_ble_eq_true rfl) dX9_forgotten_67 (fun r2 T1 h => ?_)
      refine v_iload_n C 3 dX9_forgotten_70 rfl ?_
      obtain ⟨e7, e8, e9, e10⟩ := h
      refine v_icmp_ne (tgt := 100) C dX9_forgotten_71 (by decide) e7 e8 (fun e11 => ?_) (fun e11 => ?_)
      · have h := e9 e11
        exact v_sub [1, 2, 3, 4, 5, 6, 7, 9, 0] rfl (t_X9_forgotten_100 C E k13 k27 h)
      · have h := e10 e11
        refine v_aload_n C 1 dX9_forgotten_74 rfl ?_
        refine v_getA C kX9 26 rfl rfl wd_842 rfl dX9_forgotten_75 ?_
        refine v_iload_n C 2 dX9_forgotten_78 rfl ?_
        refine v_iload C 9 dX9_forgotten_79 rfl ?_
        refine v_cSZ C (s_X9_knows G l0 (ar_of (o := 13) rfl ar_9_26) h) mv_X9_knows wd_1013 ⟨by decide, by decide⟩ rfl rfl (Nat.le_of_ble_eq_true rfl) dX9_forgotten_81 (fun p4 T3 h => ?_)
        obtain ⟨e12, e13⟩ := h
        refine v_ifz_eq (tgt := 100) C dX9_forgotten_84 (by decide) (fun e14 => ?_) (fun e14 => ?_)
        · have h := e12 e14
          exact v_sub [1, 2, 3, 4, 5, 6, 7, 9, 0] rfl (t_X9_forgotten_100 C E k13 k27 h)
        · have h := e13 e14
          refine v_aload_n C 1 dX9_forgotten_87 rfl ?_
          refine v_iload C 9 dX9_forgotten_88 rfl ?_
          refine v_cVZ C kX9 rfl (s_X9_isLie G l0 h) mv_X9_isLie wd_1057 ⟨by decide, by decide⟩ rfl rfl (Nat.le_of_ble_eq_true rfl) dX9_forgotten_90 (fun p6 T5 h => ?_)
          obtain ⟨e15, e16⟩ := h
          refine v_ifz_ne (tgt := 100) C dX9_forgotten_93 (by decide) (fun e17 => ?_) (fun e17 => ?_)
          · have h := e15 e17
            exact v_sub [1, 2, 3, 4, 5, 6, 7, 9, 0] rfl (t_X9_forgotten_100 C E k13 k27 h)
          · have h := e16 e17
            exact v_sub [1, 2, 3, 4, 5, 6, 7, 9, 0] rfl (t_X9_forgotten_96 C E k13 k27 h)
set_option maxRecDepth 100000 in
theorem t_X9_forgotten_27 {G : GT} {l0 : Launch} {X : CX} (C : CT G l0 X cX9_forgotten 10 RX9 (rM 1 22)) {Q : Int → TH → Prop} (E : EN G X (some .int) (QI G Q)) {v1 : Int} {v2 : Int} {v3 : Int} {K13 : Int → Int → TH → Prop} (k13 : ∀ (v4 : Int) (v5 : Int) (T : TH), K13 v4 v5 T → V G X T 13 [(0, .ref (gad G 13)), (1, .int (zI v1)), (2, .int (zI v2)), (3, .int (zI v3)), (4, .int (zI v4)), (5, .int (zI v5))] []) : ∀ (n : Nat) (v4 : Int) (v5 : Int) (v6 : Int) (z7 : Bool) (v8 : Int) (T : TH), h_X9_forgotten_27 v1 v2 v3 Q K13 n v4 v5 v6 z7 v8 T → V G X T 27 [(0, .ref (gad G 13)), (1, .int (zI v1)), (2, .int (zI v2)), (3, .int (zI v3)), (4, .int (zI v4)), (5, .int (zI v5)), (6, .int (zI v6)), (7, .int (zI (zi z7))), (8, .int (zI v8))] [] := by
  intro n
  induction n with
  | zero =>
    intro v4 v5 v6 z7 v8 T h
    exact h.elim
  | succ n ih =>
    intro v4 v5 v6 z7 v8 T h
    rw [h_X9_forgotten_27] at h
    refine v_iload C 8 dX9_forgotten_27 rfl ?_
    refine v_aload_n C 0 dX9_forgotten_29 rfl ?_
    refine v_getI C kX9 18 rfl rfl wd_834 rfl dX9_forgotten_30 ?_
    obtain ⟨e1, e2, e3, e4⟩ := h
    refine v_icmp_ge (tgt := 129) C dX9_forgotten_33 (by decide) e1 e2 (fun e5 => ?_) (fun e5 => ?_)
    · have h := e3 e5
      refine v_iload C 7 dX9_forgotten_129 rfl ?_
      obtain ⟨e6, e7⟩ := h
      refine v_ifz_eq (tgt := 145) C dX9_forgotten_131 (by decide) (fun e8 => ?_) (fun e8 => ?_)
      · have h := e6 e8
        exact v_sub [0, 1, 2, 3, 4, 5] rfl (t_X9_forgotten_145 C E k13 h)
      · have h := e7 e8
        refine v_iload C 6 dX9_forgotten_134 rfl ?_
        refine v_iload_n C 3 dX9_forgotten_136 rfl ?_
        obtain ⟨e9, e10, e11, e12⟩ := h
        refine v_icmp_ne (tgt := 145) C dX9_forgotten_137 (by decide) e9 e10 (fun e13 => ?_) (fun e13 => ?_)
        · have h := e11 e13
          exact v_sub [0, 1, 2, 3, 4, 5] rfl (t_X9_forgotten_145 C E k13 h)
        · have h := e12 e13
          refine v_iload C 5 dX9_forgotten_140 rfl ?_
          refine v_goto (tgt := 147) C dX9_forgotten_142 (by decide) ?_
          exact v_sub [0, 1, 2, 3, 5] rfl (t_X9_forgotten_147 C E k13 h)
    · have h := e4 e5
      refine v_iload C 5 dX9_forgotten_36 rfl ?_
      refine v_iload C 8 dX9_forgotten_38 rfl ?_
      refine v_ishr C dX9_forgotten_40 ?_
      refine v_iconst C dX9_forgotten_41 ?_
      refine v_iand C dX9_forgotten_42 ?_
      refine v_iconst C dX9_forgotten_43 ?_
      obtain ⟨e14, e15, e16⟩ := h
      refine v_icmp_ne (tgt := 51) C dX9_forgotten_44 (by decide) e14 ⟨by decide, by decide⟩ (fun e17 => ?_) (fun e17 => ?_)
      · have h := e15 e17
        refine v_iconst C dX9_forgotten_51 ?_
        exact v_sub [0, 1, 2, 3, 4, 5, 6, 7, 8] rfl (t_X9_forgotten_52 C E k13 ih h)
      · have h := e16 e17
        refine v_iconst C dX9_forgotten_47 ?_
        refine v_goto (tgt := 52) C dX9_forgotten_48 (by decide) ?_
        exact v_sub [0, 1, 2, 3, 4, 5, 6, 7, 8] rfl (t_X9_forgotten_52 C E k13 ih h)
set_option maxRecDepth 100000 in
theorem t_X9_forgotten_13 {G : GT} {l0 : Launch} {X : CX} (C : CT G l0 X cX9_forgotten 10 RX9 (rM 1 22)) {Q : Int → TH → Prop} (E : EN G X (some .int) (QI G Q)) {v1 : Int} {v2 : Int} {v3 : Int} : ∀ (n : Nat) (v4 : Int) (v5 : Int) (T : TH), h_X9_forgotten_13 v1 v2 v3 Q n v4 v5 T → V G X T 13 [(0, .ref (gad G 13)), (1, .int (zI v1)), (2, .int (zI v2)), (3, .int (zI v3)), (4, .int (zI v4)), (5, .int (zI v5))] [] := by
  intro n
  induction n with
  | zero =>
    intro v4 v5 T h
    exact h.elim
  | succ n ih =>
    intro v4 v5 T h
    rw [h_X9_forgotten_13] at h
    refine v_iload C 5 dX9_forgotten_13 rfl ?_
    obtain ⟨e1, e2, e3⟩ := h
    refine v_if_lt (tgt := 155) C dX9_forgotten_15 (by decide) e1 (fun e4 => ?_) (fun e4 => ?_)
    · have h := e2 e4
      refine v_iload C 4 dX9_forgotten_155 rfl ?_
      exact v_iret C E dX9_forgotten_157 h
    · have h := e3 e4
      refine v_iconst C dX9_forgotten_18 ?_
      refine v_istore C dX9_forgotten_19 (by decide) ?_
      refine v_iconst C dX9_forgotten_21 ?_
      refine v_istore C dX9_forgotten_22 (by decide) ?_
      refine v_iconst C dX9_forgotten_24 ?_
      refine v_istore C dX9_forgotten_25 (by decide) ?_
      obtain ⟨n9, h⟩ := h
      exact v_sub [3, 4, 5, 6, 7, 8, 2, 1, 0] rfl (t_X9_forgotten_27 C E ih n9 _ _ _ _ _ _ h)
set_option maxRecDepth 100000 in
theorem s_X9_forgotten (G : GT) (l0 : Launch) {v1 : Int} {v2 : Int} {v3 : Int} {T : TH} {Q : Int → TH → Prop} (h : wp_X9_forgotten v1 v2 v3 T Q) : MT G l0 yX9_forgotten cX9_forgotten 10 (some .int) 1 22 [.ref (gad G 13), .int (zI v1), .int (zI v2), .int (zI v3)] T (QI G Q) := by
  refine mt_of G l0 (by decide) (Nat.le_of_ble_eq_true rfl) (fun X C E => ?_)
  show V G X T 0 [(0, .ref (gad G 13)), (1, .int (zI v1)), (2, .int (zI v2)), (3, .int (zI v3))] []
  unfold wp_X9_forgotten at h
  refine v_iconst C dX9_forgotten_0 ?_
  refine v_istore C dX9_forgotten_1 (by decide) ?_
  refine v_iconst C dX9_forgotten_3 ?_
  refine v_aload_n C 1 dX9_forgotten_4 rfl ?_
  refine v_getI C kX9 18 rfl rfl wd_834 rfl dX9_forgotten_5 ?_
  refine v_ishl C dX9_forgotten_8 ?_
  refine v_iconst C dX9_forgotten_9 ?_
  refine v_isub C dX9_forgotten_10 ?_
  refine v_istore C dX9_forgotten_11 (by decide) ?_
  have h := h _ rfl
  obtain ⟨n9, h⟩ := h
  exact v_sub [2, 3, 4, 5, 1, 0] rfl (t_X9_forgotten_13 C E n9 _ _ _ h)
def b_X9_treaty_64 (v1 : Int) (v2 : Int) (v3 : Int) (Q : Int → TH → Prop) (K40 : Int → TH → Prop) (v4 : Int) (T : TH) : Prop :=
  K40 (v4 + (-1)) T
def h_X9_treaty_40 (v1 : Int) (v2 : Int) (v3 : Int) (Q : Int → TH → Prop) : Nat → Int → TH → Prop
  | 0, _, _ => False
  | n + 1, v4, T => wp_X9_forgotten v1 v2 v4 T (fun r2 T1 => zR r2 ∧ (r2 = (-1) → (b_X9_treaty_64 v1 v2 v3 Q (h_X9_treaty_40 v1 v2 v3 Q n) v4 T1)) ∧ (¬ (r2 = (-1)) → (wp_X9_forgotten v2 v1 v4 T1 (fun r4 T3 => zR r4 ∧ (¬ r4 = (-1) → (zR v3 ∧ (¬ v3 = 0 → (zR v3 ∧ (¬ v3 = 1 → (wp_X9_forgotten v2 v1 v4 T3 (fun r6 T5 => Q r6 T5))) ∧ (v3 = 1 → (wp_X9_forgotten v1 v2 v4 T3 (fun r8 T7 => Q r8 T7))))) ∧ (v3 = 0 → (Q v4 T3)))) ∧ (r4 = (-1) → (b_X9_treaty_64 v1 v2 v3 Q (h_X9_treaty_40 v1 v2 v3 Q n) v4 T3))))))
def wp_X9_treaty (v1 : Int) (v2 : Int) (v3 : Int) (T : TH) (Q : Int → TH → Prop) : Prop :=
  wp_X9_isOne v1 T (fun p2 T1 => (p2 = false → (Q (-1000000001) T1)) ∧ (p2 = true → (wp_X9_isOne v2 T1 (fun p4 T3 => (p4 = false → (Q (-1000000001) T3)) ∧ (p4 = true → (zR v1 ∧ zR v2 ∧ (¬ v1 = v2 → (wp_X9_in v3 0 2 T3 (fun p6 T5 => (p6 = true → ((∃ m9 : Nat, h_X9_treaty_40 v1 v2 v3 Q m9 72 T5))) ∧ (p6 = false → (Q (-1000000002) T5))))) ∧ (v1 = v2 → (Q (-1000000001) T3))))))))
set_option maxRecDepth 100000 in
theorem t_X9_treaty_64 {G : GT} {l0 : Launch} {X : CX} (C : CT G l0 X cX9_treaty 5 RX9 (rM 2 51)) {Q : Int → TH → Prop} (E : EN G X (some .int) (QI G Q)) {v1 : Int} {v2 : Int} {v3 : Int} {K40 : Int → TH → Prop} (k40 : ∀ (v4 : Int) (T : TH), K40 v4 T → V G X T 40 [(0, .ref (gad G 13)), (1, .int (zI v1)), (2, .int (zI v2)), (3, .int (zI v3)), (4, .int (zI v4))] []) {v4 : Int} {T : TH} (h : b_X9_treaty_64 v1 v2 v3 Q K40 v4 T) : V G X T 64 [(0, .ref (gad G 13)), (1, .int (zI v1)), (2, .int (zI v2)), (3, .int (zI v3)), (4, .int (zI v4))] [] := by
  unfold b_X9_treaty_64 at h
  refine v_iinc C 4 dX9_treaty_64 rfl (by decide) ?_
  refine v_goto (tgt := 40) C dX9_treaty_67 (by decide) ?_
  exact v_sub [1, 2, 3, 4, 0] rfl (k40 _ _ h)
set_option maxRecDepth 100000 in
theorem t_X9_treaty_40 {G : GT} {l0 : Launch} {X : CX} (C : CT G l0 X cX9_treaty 5 RX9 (rM 2 51)) {Q : Int → TH → Prop} (E : EN G X (some .int) (QI G Q)) {v1 : Int} {v2 : Int} {v3 : Int} : ∀ (n : Nat) (v4 : Int) (T : TH), h_X9_treaty_40 v1 v2 v3 Q n v4 T → V G X T 40 [(0, .ref (gad G 13)), (1, .int (zI v1)), (2, .int (zI v2)), (3, .int (zI v3)), (4, .int (zI v4))] [] := by
  intro n
  induction n with
  | zero =>
    intro v4 T h
    exact h.elim
  | succ n ih =>
    intro v4 T h
    rw [h_X9_treaty_40] at h
    refine v_aload_n C 0 dX9_treaty_40 rfl ?_
    refine v_iload_n C 1 dX9_treaty_41 rfl ?_
    refine v_iload_n C 2 dX9_treaty_42 rfl ?_
    refine v_iload C 4 dX9_treaty_43 rfl ?_
    refine v_cVI C kX9 rfl (s_X9_forgotten G l0 h) mv_X9_forgotten wd_1165 ⟨by decide, by decide⟩ rfl rfl (Nat.le_of_ble_eq_true rfl) dX9_treaty_45 (fun r2 T1 h => ?_)
    refine v_iconst C dX9_treaty_48 ?_
    obtain ⟨e1, e2, e3⟩ := h
    refine v_icmp_eq (tgt := 64) C dX9_treaty_49 (by decide) e1 ⟨by decide, by decide⟩ (fun e4 => ?_) (fun e4 => ?_)
    · have h := e2 e4
      exact v_sub [0, 1, 2, 3, 4] rfl (t_X9_treaty_64 C E ih h)
    · have h := e3 e4
      refine v_aload_n C 0 dX9_treaty_52 rfl ?_
      refine v_iload_n C 2 dX9_treaty_53 rfl ?_
      refine v_iload_n C 1 dX9_treaty_54 rfl ?_
      refine v_iload C 4 dX9_treaty_55 rfl ?_
      refine v_cVI C kX9 rfl (s_X9_forgotten G l0 h) mv_X9_forgotten wd_1165 ⟨by decide, by decide⟩ rfl rfl (Nat.le_of_ble_eq_true rfl) dX9_treaty_57 (fun r4 T3 h => ?_)
      refine v_iconst C dX9_treaty_60 ?_
      obtain ⟨e5, e6, e7⟩ := h
      refine v_icmp_ne (tgt := 70) C dX9_treaty_61 (by decide) e5 ⟨by decide, by decide⟩ (fun e8 => ?_) (fun e8 => ?_)
      · have h := e6 e8
        refine v_iload_n C 3 dX9_treaty_70 rfl ?_
        obtain ⟨e9, e10, e11⟩ := h
        refine v_if_ne (tgt := 79) C dX9_treaty_71 (by decide) e9 (fun e12 => ?_) (fun e12 => ?_)
        · have h := e10 e12
          refine v_iload_n C 3 dX9_treaty_79 rfl ?_
          refine v_iconst C dX9_treaty_80 ?_
          obtain ⟨e13, e14, e15⟩ := h
          refine v_icmp_ne (tgt := 95) C dX9_treaty_81 (by decide) e13 ⟨by decide, by decide⟩ (fun e16 => ?_) (fun e16 => ?_)
          · have h := e14 e16
            refine v_aload_n C 0 dX9_treaty_95 rfl ?_
            refine v_iload_n C 2 dX9_treaty_96 rfl ?_
            refine v_iload_n C 1 dX9_treaty_97 rfl ?_
            refine v_iload C 4 dX9_treaty_98 rfl ?_
            refine v_cVI C kX9 rfl (s_X9_forgotten G l0 h) mv_X9_forgotten wd_1165 ⟨by decide, by decide⟩ rfl rfl (Nat.le_of_ble_eq_true rfl) dX9_treaty_100 (fun r6 T5 h => ?_)
            exact v_iret C E dX9_treaty_103 h
          · have h := e15 e16
            refine v_aload_n C 0 dX9_treaty_84 rfl ?_
            refine v_iload_n C 1 dX9_treaty_85 rfl ?_
            refine v_iload_n C 2 dX9_treaty_86 rfl ?_
            refine v_iload C 4 dX9_treaty_87 rfl ?_
            refine v_cVI C kX9 rfl (s_X9_forgotten G l0 h) mv_X9_forgotten wd_1165 ⟨by decide, by decide⟩ rfl rfl (Nat.le_of_ble_eq_true rfl) dX9_treaty_89 (fun r8 T7 h => ?_)
            refine v_goto (tgt := 103) C dX9_treaty_92 (by decide) ?_
            exact v_iret C E dX9_treaty_103 h
        · have h := e11 e12
          refine v_iload C 4 dX9_treaty_74 rfl ?_
          refine v_goto (tgt := 103) C dX9_treaty_76 (by decide) ?_
          exact v_iret C E dX9_treaty_103 h
      · have h := e7 e8
        exact v_sub [0, 1, 2, 3, 4] rfl (t_X9_treaty_64 C E ih h)
set_option maxRecDepth 100000 in
theorem s_X9_treaty (G : GT) (l0 : Launch) {v1 : Int} {v2 : Int} {v3 : Int} {T : TH} {Q : Int → TH → Prop} (h : wp_X9_treaty v1 v2 v3 T Q) : MT G l0 yX9_treaty cX9_treaty 5 (some .int) 2 51 [.ref (gad G 13), .int (zI v1), .int (zI v2), .int (zI v3)] T (QI G Q) := by
  refine mt_of G l0 (by decide) (Nat.le_of_ble_eq_true rfl) (fun X C E => ?_)
  show V G X T 0 [(0, .ref (gad G 13)), (1, .int (zI v1)), (2, .int (zI v2)), (3, .int (zI v3))] []
  unfold wp_X9_treaty at h
  refine v_aload_n C 0 dX9_treaty_0 rfl ?_
  refine v_iload_n C 1 dX9_treaty_1 rfl ?_
  refine v_cVZ C kX9 rfl (s_X9_isOne G l0 h) mv_X9_isOne wd_1033 ⟨by decide, by decide⟩ rfl rfl (Nat.le_of_ble_eq_true rfl) dX9_treaty_2 (fun p2 T1 h => ?_)
  obtain ⟨e1, e2⟩ := h
  refine v_ifz_eq (tgt := 21) C dX9_treaty_5 (by decide) (fun e3 => ?_) (fun e3 => ?_)
  · have h := e1 e3
    refine v_ldc (n := -1000000001) C dX9_treaty_21 wd_1024 (by decide) ?_
    exact v_iret C E dX9_treaty_23 h
  · have h := e2 e3
    refine v_aload_n C 0 dX9_treaty_8 rfl ?_
    refine v_iload_n C 2 dX9_treaty_9 rfl ?_
    refine v_cVZ C kX9 rfl (s_X9_isOne G l0 h) mv_X9_isOne wd_1033 ⟨by decide, by decide⟩ rfl rfl (Nat.le_of_ble_eq_true rfl) dX9_treaty_10 (fun p4 T3 h => ?_)
    obtain ⟨e4, e5⟩ := h
    refine v_ifz_eq (tgt := 21) C dX9_treaty_13 (by decide) (fun e6 => ?_) (fun e6 => ?_)
    · have h := e4 e6
      refine v_ldc (n := -1000000001) C dX9_treaty_21 wd_1024 (by decide) ?_
      exact v_iret C E dX9_treaty_23 h
    · have h := e5 e6
      refine v_iload_n C 1 dX9_treaty_16 rfl ?_
      refine v_iload_n C 2 dX9_treaty_17 rfl ?_
      obtain ⟨e7, e8, e9, e10⟩ := h
      refine v_icmp_ne (tgt := 24) C dX9_treaty_18 (by decide) e7 e8 (fun e11 => ?_) (fun e11 => ?_)
      · have h := e9 e11
        refine v_iload_n C 3 dX9_treaty_24 rfl ?_
        refine v_iconst C dX9_treaty_25 ?_
        refine v_iconst C dX9_treaty_26 ?_
        refine v_cSZ C (s_X9_in G l0 h) mv_X9_in wd_937 ⟨by decide, by decide⟩ rfl rfl (Nat.le_of_ble_eq_true rfl) dX9_treaty_27 (fun p6 T5 h => ?_)
        obtain ⟨e12, e13⟩ := h
        refine v_ifz_ne (tgt := 36) C dX9_treaty_30 (by decide) (fun e14 => ?_) (fun e14 => ?_)
        · have h := e12 e14
          refine v_bipush C dX9_treaty_36 (by decide) ?_
          refine v_istore C dX9_treaty_38 (by decide) ?_
          obtain ⟨n9, h⟩ := h
          exact v_sub [1, 2, 3, 4, 0] rfl (t_X9_treaty_40 C E n9 _ _ h)
        · have h := e13 e14
          refine v_ldc (n := -1000000002) C dX9_treaty_33 wd_940 (by decide) ?_
          exact v_iret C E dX9_treaty_35 h
      · have h := e10 e11
        refine v_ldc (n := -1000000001) C dX9_treaty_21 wd_1024 (by decide) ?_
        exact v_iret C E dX9_treaty_23 h
def b_X9_odds_338 (v1 : Int) (v2 : Int) (v3 : Int) (Q : Int → TH → Prop) (K302 : Int → Int → TH → Prop) (v6 : Int) (s0 : Int) (s1 : Int) (T : TH) : Prop :=
  ∀ w1 : Int, w1 = (s0 + s1) → K302 w1 (v6 + 1) T
def h_X9_odds_302 (v1 : Int) (v2 : Int) (v3 : Int) (Q : Int → TH → Prop) : Nat → Int → Int → TH → Prop
  | 0, _, _, _ => False
  | n + 1, v4, v6, T => zR v6 ∧ (1200 ≤ v6 → (Q v4 T)) ∧ (¬ (1200 ≤ v6) → (0 ≤ v2 ∧ v2 < 4 ∧ zR (v6 - 600) ∧ zR (T 13 24 v2) ∧ ((T 13 24 v2) < (v6 - 600) → (b_X9_odds_338 v1 v2 v3 Q (h_X9_odds_302 v1 v2 v3 Q n) v6 v4 0 T)) ∧ (¬ ((T 13 24 v2) < (v6 - 600)) → (0 ≤ v6 ∧ v6 < 1200 ∧ b_X9_odds_338 v1 v2 v3 Q (h_X9_odds_302 v1 v2 v3 Q n) v6 v4 (T 13 35 v6) T))))
def h_X9_odds_256 (v1 : Int) (v2 : Int) (v3 : Int) (Q : Int → TH → Prop) (K81 : Int → TH → Prop) (K143 : Int → Int → Int → TH → Prop) : Nat → Int → Int → Int → Int → TH → Prop
  | 0, _, _, _, _, _ => False
  | n + 1, v4, v5, v6, v7, T => zR v7 ∧ (1200 ≤ v7 → (K143 v4 v5 (v6 + (-1)) T)) ∧ (¬ (1200 ≤ v7) → (0 ≤ v7 ∧ v7 < 1200 ∧ 0 ≤ v7 ∧ v7 < 1200 ∧ ∀ T1 : TH, T1 = up T 13 35 v7 (T 13 36 v7) → (h_X9_odds_256 v1 v2 v3 Q K81 K143 n) v4 v5 v6 (v7 + 1) T1))
def b_X9_odds_247 (v1 : Int) (v2 : Int) (v3 : Int) (Q : Int → TH → Prop) (K81 : Int → TH → Prop) (K143 : Int → Int → Int → TH → Prop) (K176 : Int → Int → Int → Int → TH → Prop) (v4 : Int) (v5 : Int) (v6 : Int) (v7 : Int) (T : TH) : Prop :=
  K176 v4 v5 v6 (v7 + 1) T
def h_X9_odds_176 (v1 : Int) (v2 : Int) (v3 : Int) (Q : Int → TH → Prop) (K81 : Int → TH → Prop) (K143 : Int → Int → Int → TH → Prop) : Nat → Int → Int → Int → Int → TH → Prop
  | 0, _, _, _, _, _ => False
  | n + 1, v4, v5, v6, v7, T => zR v7 ∧ (1200 ≤ v7 → ((∃ m9 : Nat, h_X9_odds_256 v1 v2 v3 Q K81 K143 m9 v4 v5 v6 0 T))) ∧ (¬ (1200 ≤ v7) → (0 ≤ v7 ∧ v7 < 1200 ∧ zRL (T 13 35 v7) ∧ zRL 0 ∧ zR (zlc (T 13 35 v7) 0) ∧ ((zlc (T 13 35 v7) 0) ≤ 0 → (b_X9_odds_247 v1 v2 v3 Q K81 K143 (h_X9_odds_176 v1 v2 v3 Q K81 K143 n) v4 v5 v6 v7 T)) ∧ (¬ ((zlc (T 13 35 v7) 0) ≤ 0) → (0 ≤ v7 ∧ v7 < 1200 ∧ zR v3 ∧ ∀ w1 : Int, w1 = (zdivL ((T 13 35 v7) * v3) 100) → 0 ≤ v7 ∧ v7 < 1200 ∧ 0 ≤ v7 ∧ v7 < 1200 ∧ 0 ≤ v7 ∧ v7 < 1200 ∧ ∀ T2 : TH, T2 = up T 13 36 v7 ((T 13 36 v7) + ((T 13 35 v7) - w1)) → 0 ≤ (v7 + v5) ∧ (v7 + v5) < 1200 ∧ 0 ≤ (v7 + v5) ∧ (v7 + v5) < 1200 ∧ ∀ T3 : TH, T3 = up T2 13 36 (v7 + v5) ((T2 13 36 (v7 + v5)) + w1) → b_X9_odds_247 v1 v2 v3 Q K81 K143 (h_X9_odds_176 v1 v2 v3 Q K81 K143 n) v4 v5 v6 v7 T3))))
def h_X9_odds_151 (v1 : Int) (v2 : Int) (v3 : Int) (Q : Int → TH → Prop) (K81 : Int → TH → Prop) (K143 : Int → Int → Int → TH → Prop) : Nat → Int → Int → Int → Int → TH → Prop
  | 0, _, _, _, _, _ => False
  | n + 1, v4, v5, v6, v7, T => zR v7 ∧ (1200 ≤ v7 → ((∃ m9 : Nat, h_X9_odds_176 v1 v2 v3 Q K81 K143 m9 v4 v5 v6 0 T))) ∧ (¬ (1200 ≤ v7) → (0 ≤ v7 ∧ v7 < 1200 ∧ ∀ T1 : TH, T1 = up T 13 36 v7 0 → (h_X9_odds_151 v1 v2 v3 Q K81 K143 n) v4 v5 v6 (v7 + 1) T1))
def h_X9_odds_143 (v1 : Int) (v2 : Int) (v3 : Int) (Q : Int → TH → Prop) (K81 : Int → TH → Prop) : Nat → Int → Int → Int → TH → Prop
  | 0, _, _, _, _ => False
  | n + 1, v4, v5, v6, T => zR v6 ∧ (v6 ≤ 0 → (K81 (v4 + 1) T)) ∧ (¬ (v6 ≤ 0) → ((∃ m9 : Nat, h_X9_odds_151 v1 v2 v3 Q K81 (h_X9_odds_143 v1 v2 v3 Q K81 n) m9 v4 v5 v6 0 T)))
def b_X9_odds_141 (v1 : Int) (v2 : Int) (v3 : Int) (Q : Int → TH → Prop) (K81 : Int → TH → Prop) (v4 : Int) (v5 : Int) (s0 : Int) (T : TH) : Prop :=
  (∃ m9 : Nat, h_X9_odds_143 v1 v2 v3 Q K81 m9 v4 v5 s0 T)
def b_X9_odds_115 (v1 : Int) (v2 : Int) (v3 : Int) (Q : Int → TH → Prop) (K81 : Int → TH → Prop) (v4 : Int) (s0 : Int) (T : TH) : Prop :=
  wp_X9_personOf v4 T (fun r2 T1 => zR r2 ∧ zR v1 ∧ (¬ r2 = v1 → (b_X9_odds_141 v1 v2 v3 Q K81 v4 s0 0 T1)) ∧ (r2 = v1 → (wp_X9_headsOf 13 26 58 v4 T1 (fun r4 T3 => b_X9_odds_141 v1 v2 v3 Q K81 v4 s0 r4 T3))))
def h_X9_odds_81 (v1 : Int) (v2 : Int) (v3 : Int) (Q : Int → TH → Prop) : Nat → Int → TH → Prop
  | 0, _, _ => False
  | n + 1, v4, T => zR v4 ∧ zR (T 13 18 0) ∧ ((T 13 18 0) ≤ v4 → ((∃ m9 : Nat, h_X9_odds_302 v1 v2 v3 Q m9 0 0 T))) ∧ (¬ ((T 13 18 0) ≤ v4) → (wp_X9_isLie v4 T (fun p2 T1 => (p2 = false → (wp_X9_gramsOf v4 T1 (fun r4 T3 => b_X9_odds_115 v1 v2 v3 Q (h_X9_odds_81 v1 v2 v3 Q n) v4 (-r4) T3))) ∧ (p2 = true → (wp_X9_gramsOf v4 T1 (fun r6 T5 => b_X9_odds_115 v1 v2 v3 Q (h_X9_odds_81 v1 v2 v3 Q n) v4 r6 T5))))))
def h_X9_odds_35 (v1 : Int) (v2 : Int) (v3 : Int) (Q : Int → TH → Prop) : Nat → Int → TH → Prop
  | 0, _, _ => False
  | n + 1, v4, T => zR v4 ∧ (1200 ≤ v4 → (wp_X9_weightOf 13 26 58 v1 T (fun r2 T1 => 0 ≤ (600 + r2) ∧ (600 + r2) < 1200 ∧ ∀ T3 : TH, T3 = up T1 13 35 (600 + r2) 1000000000 → (∃ m9 : Nat, h_X9_odds_81 v1 v2 v3 Q m9 0 T3)))) ∧ (¬ (1200 ≤ v4) → (0 ≤ v4 ∧ v4 < 1200 ∧ ∀ T4 : TH, T4 = up T 13 35 v4 0 → (h_X9_odds_35 v1 v2 v3 Q n) (v4 + 1) T4))
def wp_X9_odds (v1 : Int) (v2 : Int) (v3 : Int) (T : TH) (Q : Int → TH → Prop) : Prop :=
  wp_X9_isOne v1 T (fun p2 T1 => (p2 = false → (Q (-1000000001) T1)) ∧ (p2 = true → (wp_X9_isBridge v2 T1 (fun p4 T3 => (p4 = true → (wp_X9_in v3 0 100 T3 (fun p6 T5 => (p6 = true → ((∃ m9 : Nat, h_X9_odds_35 v1 v2 v3 Q m9 0 T5))) ∧ (p6 = false → (Q (-1000000002) T5))))) ∧ (p4 = false → (Q (-1000000001) T3))))))
set_option maxRecDepth 100000 in
theorem t_X9_odds_338 {G : GT} {l0 : Launch} {X : CX} (C : CT G l0 X cX9_odds 10 RX9 (rM 3 71)) {Q : Int → TH → Prop} (E : EN G X (some .int) (QI G Q)) {v1 : Int} {v2 : Int} {v3 : Int} {K302 : Int → Int → TH → Prop} (k302 : ∀ (v4 : Int) (v6 : Int) (T : TH), K302 v4 v6 T → V G X T 302 [(0, .ref (gad G 13)), (1, .int (zI v1)), (2, .int (zI v2)), (3, .int (zI v3)), (4, .long (zJ v4)), (6, .int (zI v6))] []) {v6 : Int} {s0 : Int} {s1 : Int} {T : TH} (h : b_X9_odds_338 v1 v2 v3 Q K302 v6 s0 s1 T) : V G X T 338 [(0, .ref (gad G 13)), (1, .int (zI v1)), (2, .int (zI v2)), (3, .int (zI v3)), (6, .int (zI v6))] [.long (zJ s1), .long (zJ s0)] := by
  unfold b_X9_odds_338 at h
  refine v_ladd C dX9_odds_338 ?_
  refine v_lstore C dX9_odds_339 (by decide) ?_
  have h := h _ rfl
  refine v_iinc C 5 dX9_odds_341 rfl (by decide) ?_
  refine v_goto (tgt := 302) C dX9_odds_344 (by decide) ?_
  exact v_sub [2, 3, 4, 5, 1, 0] rfl (k302 _ _ _ h)
set_option maxRecDepth 100000 in
theorem t_X9_odds_302 {G : GT} {l0 : Launch} {X : CX} (C : CT G l0 X cX9_odds 10 RX9 (rM 3 71)) {Q : Int → TH → Prop} (E : EN G X (some .int) (QI G Q)) {v1 : Int} {v2 : Int} {v3 : Int} : ∀ (n : Nat) (v4 : Int) (v6 : Int) (T : TH), h_X9_odds_302 v1 v2 v3 Q n v4 v6 T → V G X T 302 [(0, .ref (gad G 13)), (1, .int (zI v1)), (2, .int (zI v2)), (3, .int (zI v3)), (4, .long (zJ v4)), (6, .int (zI v6))] [] := by
  intro n
  induction n with
  | zero =>
    intro v4 v6 T h
    exact h.elim
  | succ n ih =>
    intro v4 v6 T h
    rw [h_X9_odds_302] at h
    refine v_iload C 5 dX9_odds_302 rfl ?_
    refine v_sipush C dX9_odds_304 (by decide) ?_
    obtain ⟨e1, e2, e3⟩ := h
    refine v_icmp_ge (tgt := 347) C dX9_odds_307 (by decide) e1 ⟨by decide, by decide⟩ (fun e4 => ?_) (fun e4 => ?_)
    · have h := e2 e4
      refine v_lload C 4 dX9_odds_347 rfl ?_
      refine v_l2i C dX9_odds_349 ?_
      exact v_iret C E dX9_odds_350 h
    · have h := e3 e4
      refine v_lload C 4 dX9_odds_310 rfl ?_
      refine v_iload C 5 dX9_odds_312 rfl ?_
      refine v_sipush C dX9_odds_314 (by decide) ?_
      refine v_isub C dX9_odds_317 ?_
      refine v_aload_n C 0 dX9_odds_318 rfl ?_
      refine v_getA C kX9 24 rfl rfl wd_840 rfl dX9_odds_319 ?_
      refine v_iload_n C 2 dX9_odds_322 rfl ?_
      obtain ⟨e5, e6, h⟩ := h
      refine v_iald C (ar_of (o := 13) rfl ar_9_24) dX9_odds_323 e5 e6 ?_
      obtain ⟨e7, e8, e9, e10⟩ := h
      refine v_icmp_gt (tgt := 337) C dX9_odds_324 (by decide) e7 e8 (fun e11 => ?_) (fun e11 => ?_)
      · have h := e9 e11
        refine v_lconst (n := 0) C dX9_odds_337 (by decide) ?_
        exact v_sub [0, 1, 2, 3, 5] rfl (t_X9_odds_338 C E ih h)
      · have h := e10 e11
        refine v_aload_n C 0 dX9_odds_327 rfl ?_
        refine v_getA C kX9 35 rfl rfl wd_851 rfl dX9_odds_328 ?_
        refine v_iload C 5 dX9_odds_331 rfl ?_
        obtain ⟨e12, e13, h⟩ := h
        refine v_lald C (ar_of (o := 13) rfl ar_9_35) dX9_odds_333 e12 e13 ?_
        refine v_goto (tgt := 338) C dX9_odds_334 (by decide) ?_
        exact v_sub [0, 1, 2, 3, 5] rfl (t_X9_odds_338 C E ih h)
set_option maxRecDepth 100000 in
theorem t_X9_odds_256 {G : GT} {l0 : Launch} {X : CX} (C : CT G l0 X cX9_odds 10 RX9 (rM 3 71)) {Q : Int → TH → Prop} (E : EN G X (some .int) (QI G Q)) {v1 : Int} {v2 : Int} {v3 : Int} {K81 : Int → TH → Prop} {K143 : Int → Int → Int → TH → Prop} (k81 : ∀ (v4 : Int) (T : TH), K81 v4 T → V G X T 81 [(0, .ref (gad G 13)), (1, .int (zI v1)), (2, .int (zI v2)), (3, .int (zI v3)), (4, .int (zI v4))] []) (k143 : ∀ (v4 : Int) (v5 : Int) (v6 : Int) (T : TH), K143 v4 v5 v6 T → V G X T 143 [(0, .ref (gad G 13)), (1, .int (zI v1)), (2, .int (zI v2)), (3, .int (zI v3)), (4, .int (zI v4)), (5, .int (zI v5)), (6, .int (zI v6))] []) : ∀ (n : Nat) (v4 : Int) (v5 : Int) (v6 : Int) (v7 : Int) (T : TH), h_X9_odds_256 v1 v2 v3 Q K81 K143 n v4 v5 v6 v7 T → V G X T 256 [(0, .ref (gad G 13)), (1, .int (zI v1)), (2, .int (zI v2)), (3, .int (zI v3)), (4, .int (zI v4)), (5, .int (zI v5)), (6, .int (zI v6)), (7, .int (zI v7))] [] := by
  intro n
  induction n with
  | zero =>
    intro v4 v5 v6 v7 T h
    exact h.elim
  | succ n ih =>
    intro v4 v5 v6 v7 T h
    rw [h_X9_odds_256] at h
    refine v_iload C 7 dX9_odds_256 rfl ?_
    refine v_sipush C dX9_odds_258 (by decide) ?_
    obtain ⟨e1, e2, e3⟩ := h
    refine v_icmp_ge (tgt := 284) C dX9_odds_261 (by decide) e1 ⟨by decide, by decide⟩ (fun e4 => ?_) (fun e4 => ?_)
    · have h := e2 e4
      refine v_iinc C 6 dX9_odds_284 rfl (by decide) ?_
      refine v_goto (tgt := 143) C dX9_odds_287 (by decide) ?_
      exact v_sub [1, 2, 3, 4, 5, 6, 0] rfl (k143 _ _ _ _ h)
    · have h := e3 e4
      refine v_aload_n C 0 dX9_odds_264 rfl ?_
      refine v_getA C kX9 35 rfl rfl wd_851 rfl dX9_odds_265 ?_
      refine v_iload C 7 dX9_odds_268 rfl ?_
      refine v_aload_n C 0 dX9_odds_270 rfl ?_
      refine v_getA C kX9 36 rfl rfl wd_852 rfl dX9_odds_271 ?_
      refine v_iload C 7 dX9_odds_274 rfl ?_
      obtain ⟨e5, e6, h⟩ := h
      refine v_lald C (ar_of (o := 13) rfl ar_9_36) dX9_odds_276 e5 e6 ?_
      obtain ⟨e7, e8, h⟩ := h
      refine v_last C (ar_of (o := 13) rfl ar_9_35) dX9_odds_277 e7 e8 ?_
      have h := h _ rfl
      refine v_iinc C 7 dX9_odds_278 rfl (by decide) ?_
      refine v_goto (tgt := 256) C dX9_odds_281 (by decide) ?_
      exact v_sub [1, 2, 3, 4, 5, 6, 7, 0] rfl (ih _ _ _ _ _ h)
set_option maxRecDepth 100000 in
theorem t_X9_odds_247 {G : GT} {l0 : Launch} {X : CX} (C : CT G l0 X cX9_odds 10 RX9 (rM 3 71)) {Q : Int → TH → Prop} (E : EN G X (some .int) (QI G Q)) {v1 : Int} {v2 : Int} {v3 : Int} {K81 : Int → TH → Prop} {K143 : Int → Int → Int → TH → Prop} {K176 : Int → Int → Int → Int → TH → Prop} (k81 : ∀ (v4 : Int) (T : TH), K81 v4 T → V G X T 81 [(0, .ref (gad G 13)), (1, .int (zI v1)), (2, .int (zI v2)), (3, .int (zI v3)), (4, .int (zI v4))] []) (k143 : ∀ (v4 : Int) (v5 : Int) (v6 : Int) (T : TH), K143 v4 v5 v6 T → V G X T 143 [(0, .ref (gad G 13)), (1, .int (zI v1)), (2, .int (zI v2)), (3, .int (zI v3)), (4, .int (zI v4)), (5, .int (zI v5)), (6, .int (zI v6))] []) (k176 : ∀ (v4 : Int) (v5 : Int) (v6 : Int) (v7 : Int) (T : TH), K176 v4 v5 v6 v7 T → V G X T 176 [(0, .ref (gad G 13)), (1, .int (zI v1)), (2, .int (zI v2)), (3, .int (zI v3)), (4, .int (zI v4)), (5, .int (zI v5)), (6, .int (zI v6)), (7, .int (zI v7))] []) {v4 : Int} {v5 : Int} {v6 : Int} {v7 : Int} {T : TH} (h : b_X9_odds_247 v1 v2 v3 Q K81 K143 K176 v4 v5 v6 v7 T) : V G X T 247 [(0, .ref (gad G 13)), (1, .int (zI v1)), (2, .int (zI v2)), (3, .int (zI v3)), (4, .int (zI v4)), (5, .int (zI v5)), (6, .int (zI v6)), (7, .int (zI v7))] [] := by
  unfold b_X9_odds_247 at h
  refine v_iinc C 7 dX9_odds_247 rfl (by decide) ?_
  refine v_goto (tgt := 176) C dX9_odds_250 (by decide) ?_
  exact v_sub [1, 2, 3, 4, 5, 6, 7, 0] rfl (k176 _ _ _ _ _ h)
set_option maxRecDepth 100000 in
theorem t_X9_odds_176 {G : GT} {l0 : Launch} {X : CX} (C : CT G l0 X cX9_odds 10 RX9 (rM 3 71)) {Q : Int → TH → Prop} (E : EN G X (some .int) (QI G Q)) {v1 : Int} {v2 : Int} {v3 : Int} {K81 : Int → TH → Prop} {K143 : Int → Int → Int → TH → Prop} (k81 : ∀ (v4 : Int) (T : TH), K81 v4 T → V G X T 81 [(0, .ref (gad G 13)), (1, .int (zI v1)), (2, .int (zI v2)), (3, .int (zI v3)), (4, .int (zI v4))] []) (k143 : ∀ (v4 : Int) (v5 : Int) (v6 : Int) (T : TH), K143 v4 v5 v6 T → V G X T 143 [(0, .ref (gad G 13)), (1, .int (zI v1)), (2, .int (zI v2)), (3, .int (zI v3)), (4, .int (zI v4)), (5, .int (zI v5)), (6, .int (zI v6))] []) : ∀ (n : Nat) (v4 : Int) (v5 : Int) (v6 : Int) (v7 : Int) (T : TH), h_X9_odds_176 v1 v2 v3 Q K81 K143 n v4 v5 v6 v7 T → V G X T 176 [(0, .ref (gad G 13)), (1, .int (zI v1)), (2, .int (zI v2)), (3, .int (zI v3)), (4, .int (zI v4)), (5, .int (zI v5)), (6, .int (zI v6)), (7, .int (zI v7))] [] := by
  intro n
  induction n with
  | zero =>
    intro v4 v5 v6 v7 T h
    exact h.elim
  | succ n ih =>
    intro v4 v5 v6 v7 T h
    rw [h_X9_odds_176] at h
    refine v_iload C 7 dX9_odds_176 rfl ?_
    refine v_sipush C dX9_odds_178 (by decide) ?_
    obtain ⟨e1, e2, e3⟩ := h
    refine v_icmp_ge (tgt := 253) C dX9_odds_181 (by decide) e1 ⟨by decide, by decide⟩ (fun e4 => ?_) (fun e4 => ?_)
    · have h := e2 e4
      refine v_iconst C dX9_odds_253 ?_
      refine v_istore C dX9_odds_254 (by decide) ?_
      obtain ⟨n9, h⟩ := h
      exact v_sub [1, 2, 3, 4, 5, 6, 7, 0] rfl (t_X9_odds_256 C E k81 k143 n9 _ _ _ _ _ h)
    · have h := e3 e4
      refine v_aload_n C 0 dX9_odds_184 rfl ?_
      refine v_getA C kX9 35 rfl rfl wd_851 rfl dX9_odds_185 ?_
      refine v_iload C 7 dX9_odds_188 rfl ?_
      obtain ⟨e5, e6, h⟩ := h
      refine v_lald C (ar_of (o := 13) rfl ar_9_35) dX9_odds_190 e5 e6 ?_
      refine v_lconst (n := 0) C dX9_odds_191 (by decide) ?_
      obtain ⟨e7, e8, h⟩ := h
      refine v_lcmp C dX9_odds_192 e7 e8 ?_
      obtain ⟨e9, e10, e11⟩ := h
      refine v_if_le (tgt := 247) C dX9_odds_193 (by decide) e9 (fun e12 => ?_) (fun e12 => ?_)
      · have h := e10 e12
        exact v_sub [0, 1, 2, 3, 4, 5, 6, 7] rfl (t_X9_odds_247 C E k81 k143 ih h)
      · have h := e11 e12
        refine v_aload_n C 0 dX9_odds_196 rfl ?_
        refine v_getA C kX9 35 rfl rfl wd_851 rfl dX9_odds_197 ?_
        refine v_iload C 7 dX9_odds_200 rfl ?_
        obtain ⟨e13, e14, h⟩ := h
        refine v_lald C (ar_of (o := 13) rfl ar_9_35) dX9_odds_202 e13 e14 ?_
        refine v_iload_n C 3 dX9_odds_203 rfl ?_
        obtain ⟨e15, h⟩ := h
        refine v_i2l C dX9_odds_204 e15 ?_
        refine v_lmul C dX9_odds_205 ?_
        refine v_ldc2 (n := 100) C dX9_odds_206 wd_1174 (by decide) ?_
        refine v_ldiv C dX9_odds_209 ⟨by decide, by decide⟩ (by decide) ?_
        refine v_lstore C dX9_odds_210 (by decide) ?_
        have h := h _ rfl
        refine v_aload_n C 1 dX9_odds_212 rfl ?_
        refine v_getA C kX9 36 rfl rfl wd_852 rfl dX9_odds_213 ?_
        refine v_iload C 8 dX9_odds_216 rfl ?_
        refine v_dup2 C dX9_odds_218 rfl rfl ?_
        obtain ⟨e16, e17, h⟩ := h
        refine v_lald C (ar_of (o := 13) rfl ar_9_36) dX9_odds_219 e16 e17 ?_
        refine v_aload_n C 1 dX9_odds_220 rfl ?_
        refine v_getA C kX9 35 rfl rfl wd_851 rfl dX9_odds_221 ?_
        refine v_iload C 8 dX9_odds_224 rfl ?_
        obtain ⟨e18, e19, h⟩ := h
        refine v_lald C (ar_of (o := 13) rfl ar_9_35) dX9_odds_226 e18 e19 ?_
        refine v_lload C 0 dX9_odds_227 rfl ?_
        refine v_lsub C dX9_odds_229 ?_
        refine v_ladd C dX9_odds_230 ?_
        obtain ⟨e20, e21, h⟩ := h
        refine v_last C (ar_of (o := 13) rfl ar_9_36) dX9_odds_231 e20 e21 ?_
        have h := h _ rfl
        refine v_aload_n C 1 dX9_odds_232 rfl ?_
        refine v_getA C kX9 36 rfl rfl wd_852 rfl dX9_odds_233 ?_
        refine v_iload C 8 dX9_odds_236 rfl ?_
        refine v_iload C 6 dX9_odds_238 rfl ?_
        refine v_iadd C dX9_odds_240 ?_
        refine v_dup2 C dX9_odds_241 rfl rfl ?_
        obtain ⟨e22, e23, h⟩ := h
        refine v_lald C (ar_of (o := 13) rfl ar_9_36) dX9_odds_242 e22 e23 ?_
        refine v_lload C 0 dX9_odds_243 rfl ?_
        refine v_ladd C dX9_odds_245 ?_
        obtain ⟨e24, e25, h⟩ := h
        refine v_last C (ar_of (o := 13) rfl ar_9_36) dX9_odds_246 e24 e25 ?_
        have h := h _ rfl
        exact v_sub [1, 2, 3, 4, 5, 6, 7, 8] rfl (t_X9_odds_247 C E k81 k143 ih h)
set_option maxRecDepth 100000 in
theorem t_X9_odds_151 {G : GT} {l0 : Launch} {X : CX} (C : CT G l0 X cX9_odds 10 RX9 (rM 3 71)) {Q : Int → TH → Prop} (E : EN G X (some .int) (QI G Q)) {v1 : Int} {v2 : Int} {v3 : Int} {K81 : Int → TH → Prop} {K143 : Int → Int → Int → TH → Prop} (k81 : ∀ (v4 : Int) (T : TH), K81 v4 T → V G X T 81 [(0, .ref (gad G 13)), (1, .int (zI v1)), (2, .int (zI v2)), (3, .int (zI v3)), (4, .int (zI v4))] []) (k143 : ∀ (v4 : Int) (v5 : Int) (v6 : Int) (T : TH), K143 v4 v5 v6 T → V G X T 143 [(0, .ref (gad G 13)), (1, .int (zI v1)), (2, .int (zI v2)), (3, .int (zI v3)), (4, .int (zI v4)), (5, .int (zI v5)), (6, .int (zI v6))] []) : ∀ (n : Nat) (v4 : Int) (v5 : Int) (v6 : Int) (v7 : Int) (T : TH), h_X9_odds_151 v1 v2 v3 Q K81 K143 n v4 v5 v6 v7 T → V G X T 151 [(0, .ref (gad G 13)), (1, .int (zI v1)), (2, .int (zI v2)), (3, .int (zI v3)), (4, .int (zI v4)), (5, .int (zI v5)), (6, .int (zI v6)), (7, .int (zI v7))] [] := by
  intro n
  induction n with
  | zero =>
    intro v4 v5 v6 v7 T h
    exact h.elim
  | succ n ih =>
    intro v4 v5 v6 v7 T h
    rw [h_X9_odds_151] at h
    refine v_iload C 7 dX9_odds_151 rfl ?_
    refine v_sipush C dX9_odds_153 (by decide) ?_
    obtain ⟨e1, e2, e3⟩ := h
    refine v_icmp_ge (tgt := 173) C dX9_odds_156 (by decide) e1 ⟨by decide, by decide⟩ (fun e4 => ?_) (fun e4 => ?_)
    · have h := e2 e4
      refine v_iconst C dX9_odds_173 ?_
      refine v_istore C dX9_odds_174 (by decide) ?_
      obtain ⟨n9, h⟩ := h
      exact v_sub [1, 2, 3, 4, 5, 6, 7, 0] rfl (t_X9_odds_176 C E k81 k143 n9 _ _ _ _ _ h)
    · have h := e3 e4
      refine v_aload_n C 0 dX9_odds_159 rfl ?_
      refine v_getA C kX9 36 rfl rfl wd_852 rfl dX9_odds_160 ?_
      refine v_iload C 7 dX9_odds_163 rfl ?_
      refine v_lconst (n := 0) C dX9_odds_165 (by decide) ?_
      obtain ⟨e5, e6, h⟩ := h
      refine v_last C (ar_of (o := 13) rfl ar_9_36) dX9_odds_166 e5 e6 ?_
      have h := h _ rfl
      refine v_iinc C 7 dX9_odds_167 rfl (by decide) ?_
      refine v_goto (tgt := 151) C dX9_odds_170 (by decide) ?_
      exact v_sub [1, 2, 3, 4, 5, 6, 7, 0] rfl (ih _ _ _ _ _ h)
set_option maxRecDepth 100000 in
theorem t_X9_odds_143 {G : GT} {l0 : Launch} {X : CX} (C : CT G l0 X cX9_odds 10 RX9 (rM 3 71)) {Q : Int → TH → Prop} (E : EN G X (some .int) (QI G Q)) {v1 : Int} {v2 : Int} {v3 : Int} {K81 : Int → TH → Prop} (k81 : ∀ (v4 : Int) (T : TH), K81 v4 T → V G X T 81 [(0, .ref (gad G 13)), (1, .int (zI v1)), (2, .int (zI v2)), (3, .int (zI v3)), (4, .int (zI v4))] []) : ∀ (n : Nat) (v4 : Int) (v5 : Int) (v6 : Int) (T : TH), h_X9_odds_143 v1 v2 v3 Q K81 n v4 v5 v6 T → V G X T 143 [(0, .ref (gad G 13)), (1, .int (zI v1)), (2, .int (zI v2)), (3, .int (zI v3)), (4, .int (zI v4)), (5, .int (zI v5)), (6, .int (zI v6))] [] := by
  intro n
  induction n with
  | zero =>
    intro v4 v5 v6 T h
    exact h.elim
  | succ n ih =>
    intro v4 v5 v6 T h
    rw [h_X9_odds_143] at h
    refine v_iload C 6 dX9_odds_143 rfl ?_
    obtain ⟨e1, e2, e3⟩ := h
    refine v_if_le (tgt := 290) C dX9_odds_145 (by decide) e1 (fun e4 => ?_) (fun e4 => ?_)
    · have h := e2 e4
      refine v_iinc C 4 dX9_odds_290 rfl (by decide) ?_
      refine v_goto (tgt := 81) C dX9_odds_293 (by decide) ?_
      exact v_sub [1, 2, 3, 4, 0] rfl (k81 _ _ h)
    · have h := e3 e4
      refine v_iconst C dX9_odds_148 ?_
      refine v_istore C dX9_odds_149 (by decide) ?_
      obtain ⟨n9, h⟩ := h
      exact v_sub [1, 2, 3, 4, 5, 6, 7, 0] rfl (t_X9_odds_151 C E k81 ih n9 _ _ _ _ _ h)
set_option maxRecDepth 100000 in
theorem t_X9_odds_141 {G : GT} {l0 : Launch} {X : CX} (C : CT G l0 X cX9_odds 10 RX9 (rM 3 71)) {Q : Int → TH → Prop} (E : EN G X (some .int) (QI G Q)) {v1 : Int} {v2 : Int} {v3 : Int} {K81 : Int → TH → Prop} (k81 : ∀ (v4 : Int) (T : TH), K81 v4 T → V G X T 81 [(0, .ref (gad G 13)), (1, .int (zI v1)), (2, .int (zI v2)), (3, .int (zI v3)), (4, .int (zI v4))] []) {v4 : Int} {v5 : Int} {s0 : Int} {T : TH} (h : b_X9_odds_141 v1 v2 v3 Q K81 v4 v5 s0 T) : V G X T 141 [(0, .ref (gad G 13)), (1, .int (zI v1)), (2, .int (zI v2)), (3, .int (zI v3)), (4, .int (zI v4)), (5, .int (zI v5))] [.int (zI s0)] := by
  unfold b_X9_odds_141 at h
  refine v_istore C dX9_odds_141 (by decide) ?_
  obtain ⟨n9, h⟩ := h
  exact v_sub [1, 2, 3, 4, 5, 6, 0] rfl (t_X9_odds_143 C E k81 n9 _ _ _ _ h)
set_option maxRecDepth 100000 in
theorem t_X9_odds_115 {G : GT} {l0 : Launch} {X : CX} (C : CT G l0 X cX9_odds 10 RX9 (rM 3 71)) {Q : Int → TH → Prop} (E : EN G X (some .int) (QI G Q)) {v1 : Int} {v2 : Int} {v3 : Int} {K81 : Int → TH → Prop} (k81 : ∀ (v4 : Int) (T : TH), K81 v4 T → V G X T 81 [(0, .ref (gad G 13)), (1, .int (zI v1)), (2, .int (zI v2)), (3, .int (zI v3)), (4, .int (zI v4))] []) {v4 : Int} {s0 : Int} {T : TH} (h : b_X9_odds_115 v1 v2 v3 Q K81 v4 s0 T) : V G X T 115 [(0, .ref (gad G 13)), (1, .int (zI v1)), (2, .int (zI v2)), (3, .int (zI v3)), (4, .int (zI v4))] [.int (zI s0)] := by
  unfold b_X9_odds_115 at h
  refine v_istore C dX9_odds_115 (by decide) ?_
  refine v_aload_n C 1 dX9_odds_117 rfl ?_
  refine v_iload C 5 dX9_odds_118 rfl ?_
  refine v_cVI C kX9 rfl (s_X9_personOf G l0 h) mv_X9_personOf wd_1009 ⟨by decide, by decide⟩ rfl rfl (Nat.le_of_ble_eq_true rfl) dX9_odds_120 (fun r2 T1 h => ?_)
  refine v_iload_n C 2 dX9_odds_123 rfl ?_
  obtain ⟨e1, e2, e3, e4⟩ := h
  refine v_icmp_ne (tgt := 140) C dX9_odds_124 (by decide) e1 e2 (fun e5 => ?_) (fun e5 => ?_)
  · have h := e3 e5
    refine v_iconst C dX9_odds_140 ?_
    exact v_sub [1, 2, 3, 4, 5, 0] rfl (t_X9_odds_141 C E k81 h)
  · have h := e4 e5
    refine v_aload_n C 1 dX9_odds_127 rfl ?_
    refine v_aload_n C 1 dX9_odds_128 rfl ?_
    refine v_getA C kX9 26 rfl rfl wd_842 rfl dX9_odds_129 ?_
    refine v_iload C 5 dX9_odds_132 rfl ?_
    refine v_cVI C kX9 rfl (s_X9_headsOf G l0 (ar_of (o := 13) rfl ar_9_26) h) mv_X9_headsOf wd_1005 ⟨by decide, by decide⟩ rfl rfl (Nat.le_of_ble_eq_true rfl) dX9_odds_134 (fun r4 T3 h => ?_)
    refine v_goto (tgt := 141) C dX9_odds_137 (by decide) ?_
    exact v_sub [1, 2, 3, 4, 5, 0] rfl (t_X9_odds_141 C E k81 h)
set_option maxRecDepth 100000 in
theorem t_X9_odds_81 {G : GT} {l0 : Launch} {X : CX} (C : CT G l0 X cX9_odds 10 RX9 (rM 3 71)) {Q : Int → TH → Prop} (E : EN G X (some .int) (QI G Q)) {v1 : Int} {v2 : Int} {v3 : Int} : ∀ (n : Nat) (v4 : Int) (T : TH), h_X9_odds_81 v1 v2 v3 Q n v4 T → V G X T 81 [(0, .ref (gad G 13)), (1, .int (zI v1)), (2, .int (zI v2)), (3, .int (zI v3)), (4, .int (zI v4))] [] := by
  intro n
  induction n with
  | zero =>
    intro v4 T h
    exact h.elim
  | succ n ih =>
    intro v4 T h
    rw [h_X9_odds_81] at h
    refine v_iload C 4 dX9_odds_81 rfl ?_
    refine v_aload_n C 0 dX9_odds_83 rfl ?_
    refine v_getI C kX9 18 rfl rfl wd_834 rfl dX9_odds_84 ?_
    obtain ⟨e1, e2, e3, e4⟩ := h
    refine v_icmp_ge (tgt := 296) C dX9_odds_87 (by decide) e1 e2 (fun e5 => ?_) (fun e5 => ?_)
    · have h := e3 e5
      refine v_lconst (n := 0) C dX9_odds_296 (by decide) ?_
      refine v_lstore C dX9_odds_297 (by decide) ?_
      refine v_iconst C dX9_odds_299 ?_
      refine v_istore C dX9_odds_300 (by decide) ?_
      obtain ⟨n9, h⟩ := h
      exact v_sub [2, 3, 4, 5, 1, 0] rfl (t_X9_odds_302 C E n9 _ _ _ h)
    · have h := e4 e5
      refine v_aload_n C 0 dX9_odds_90 rfl ?_
      refine v_iload C 4 dX9_odds_91 rfl ?_
      refine v_cVZ C kX9 rfl (s_X9_isLie G l0 h) mv_X9_isLie wd_1057 ⟨by decide, by decide⟩ rfl rfl (Nat.le_of_ble_eq_true rfl) dX9_odds_93 (fun p2 T1 h => ?_)
      obtain ⟨e6, e7⟩ := h
      refine v_ifz_eq (tgt := 108) C dX9_odds_96 (by decide) (fun e8 => ?_) (fun e8 => ?_)
      · have h := e6 e8
        refine v_aload_n C 0 dX9_odds_108 rfl ?_
        refine v_iload C 4 dX9_odds_109 rfl ?_
        refine v_cVI C kX9 rfl (s_X9_gramsOf G l0 h) mv_X9_gramsOf wd_1053 ⟨by decide, by decide⟩ rfl rfl (Nat.le_of_ble_eq_true rfl) dX9_odds_111 (fun r4 T3 h => ?_)
        refine v_ineg C dX9_odds_114 ?_
        exact v_sub [0, 1, 2, 3, 4] rfl (t_X9_odds_115 C E ih h)
      · have h := e7 e8
        refine v_aload_n C 0 dX9_odds_99 rfl ?_
        refine v_iload C 4 dX9_odds_100 rfl ?_
        refine v_cVI C kX9 rfl (s_X9_gramsOf G l0 h) mv_X9_gramsOf wd_1053 ⟨by decide, by decide⟩ rfl rfl (Nat.le_of_ble_eq_true rfl) dX9_odds_102 (fun r6 T5 h => ?_)
        refine v_goto (tgt := 115) C dX9_odds_105 (by decide) ?_
        exact v_sub [0, 1, 2, 3, 4] rfl (t_X9_odds_115 C E ih h)
set_option maxRecDepth 100000 in
theorem t_X9_odds_35 {G : GT} {l0 : Launch} {X : CX} (C : CT G l0 X cX9_odds 10 RX9 (rM 3 71)) {Q : Int → TH → Prop} (E : EN G X (some .int) (QI G Q)) {v1 : Int} {v2 : Int} {v3 : Int} : ∀ (n : Nat) (v4 : Int) (T : TH), h_X9_odds_35 v1 v2 v3 Q n v4 T → V G X T 35 [(0, .ref (gad G 13)), (1, .int (zI v1)), (2, .int (zI v2)), (3, .int (zI v3)), (4, .int (zI v4))] [] := by
  intro n
  induction n with
  | zero =>
    intro v4 T h
    exact h.elim
  | succ n ih =>
    intro v4 T h
    rw [h_X9_odds_35] at h
    refine v_iload C 4 dX9_odds_35 rfl ?_
    refine v_sipush C dX9_odds_37 (by decide) ?_
    obtain ⟨e1, e2, e3⟩ := h
    refine v_icmp_ge (tgt := 57) C dX9_odds_40 (by decide) e1 ⟨by decide, by decide⟩ (fun e4 => ?_) (fun e4 => ?_)
    · have h := e2 e4
      refine v_aload_n C 0 dX9_odds_57 rfl ?_
      refine v_getA C kX9 35 rfl rfl wd_851 rfl dX9_odds_58 ?_
      refine v_sipush C dX9_odds_61 (by decide) ?_
      refine v_aload_n C 0 dX9_odds_64 rfl ?_
      refine v_aload_n C 0 dX9_odds_65 rfl ?_
      refine v_getA C kX9 26 rfl rfl wd_842 rfl dX9_odds_66 ?_
      refine v_iload_n C 1 dX9_odds_69 rfl ?_
      refine v_cVI C kX9 rfl (s_X9_weightOf G l0 (ar_of (o := 13) rfl ar_9_26) h) mv_X9_weightOf wd_1049 ⟨by decide, by decide⟩ rfl rfl (Nat.le_of_ble_eq_true rfl) dX9_odds_70 (fun r2 T1 h => ?_)
      refine v_iadd C dX9_odds_73 ?_
      refine v_ldc2 (n := 1000000000) C dX9_odds_74 wd_1173 (by decide) ?_
      obtain ⟨e5, e6, h⟩ := h
      refine v_last C (ar_of (o := 13) rfl ar_9_35) dX9_odds_77 e5 e6 ?_
      have h := h _ rfl
      refine v_iconst C dX9_odds_78 ?_
      refine v_istore C dX9_odds_79 (by decide) ?_
      obtain ⟨n9, h⟩ := h
      exact v_sub [1, 2, 3, 4, 0] rfl (t_X9_odds_81 C E n9 _ _ h)
    · have h := e3 e4
      refine v_aload_n C 0 dX9_odds_43 rfl ?_
      refine v_getA C kX9 35 rfl rfl wd_851 rfl dX9_odds_44 ?_
      refine v_iload C 4 dX9_odds_47 rfl ?_
      refine v_lconst (n := 0) C dX9_odds_49 (by decide) ?_
      obtain ⟨e7, e8, h⟩ := h
      refine v_last C (ar_of (o := 13) rfl ar_9_35) dX9_odds_50 e7 e8 ?_
      have h := h _ rfl
      refine v_iinc C 4 dX9_odds_51 rfl (by decide) ?_
      refine v_goto (tgt := 35) C dX9_odds_54 (by decide) ?_
      exact v_sub [1, 2, 3, 4, 0] rfl (ih _ _ h)
set_option maxRecDepth 100000 in
theorem s_X9_odds (G : GT) (l0 : Launch) {v1 : Int} {v2 : Int} {v3 : Int} {T : TH} {Q : Int → TH → Prop} (h : wp_X9_odds v1 v2 v3 T Q) : MT G l0 yX9_odds cX9_odds 10 (some .int) 3 71 [.ref (gad G 13), .int (zI v1), .int (zI v2), .int (zI v3)] T (QI G Q) := by
  refine mt_of G l0 (by decide) (Nat.le_of_ble_eq_true rfl) (fun X C E => ?_)
  show V G X T 0 [(0, .ref (gad G 13)), (1, .int (zI v1)), (2, .int (zI v2)), (3, .int (zI v3))] []
  unfold wp_X9_odds at h
  refine v_aload_n C 0 dX9_odds_0 rfl ?_
  refine v_iload_n C 1 dX9_odds_1 rfl ?_
  refine v_cVZ C kX9 rfl (s_X9_isOne G l0 h) mv_X9_isOne wd_1033 ⟨by decide, by decide⟩ rfl rfl (Nat.le_of_ble_eq_true rfl) dX9_odds_2 (fun p2 T1 h => ?_)
  obtain ⟨e1, e2⟩ := h
  refine v_ifz_eq (tgt := 16) C dX9_odds_5 (by decide) (fun e3 => ?_) (fun e3 => ?_)
  · have h := e1 e3
    refine v_ldc (n := -1000000001) C dX9_odds_16 wd_1024 (by decide) ?_
    exact v_iret C E dX9_odds_18 h
  · have h := e2 e3
    refine v_aload_n C 0 dX9_odds_8 rfl ?_
    refine v_iload_n C 2 dX9_odds_9 rfl ?_
    refine v_cVZ C kX9 rfl (s_X9_isBridge G l0 h) mv_X9_isBridge wd_1065 ⟨by decide, by decide⟩ rfl rfl (Nat.le_of_ble_eq_true rfl) dX9_odds_10 (fun p4 T3 h => ?_)
    obtain ⟨e4, e5⟩ := h
    refine v_ifz_ne (tgt := 19) C dX9_odds_13 (by decide) (fun e6 => ?_) (fun e6 => ?_)
    · have h := e4 e6
      refine v_iload_n C 3 dX9_odds_19 rfl ?_
      refine v_iconst C dX9_odds_20 ?_
      refine v_bipush C dX9_odds_21 (by decide) ?_
      refine v_cSZ C (s_X9_in G l0 h) mv_X9_in wd_937 ⟨by decide, by decide⟩ rfl rfl (Nat.le_of_ble_eq_true rfl) dX9_odds_23 (fun p6 T5 h => ?_)
      obtain ⟨e7, e8⟩ := h
      refine v_ifz_ne (tgt := 32) C dX9_odds_26 (by decide) (fun e9 => ?_) (fun e9 => ?_)
      · have h := e7 e9
        refine v_iconst C dX9_odds_32 ?_
        refine v_istore C dX9_odds_33 (by decide) ?_
        obtain ⟨n9, h⟩ := h
        exact v_sub [1, 2, 3, 4, 0] rfl (t_X9_odds_35 C E n9 _ _ h)
      · have h := e8 e9
        refine v_ldc (n := -1000000002) C dX9_odds_29 wd_940 (by decide) ?_
        exact v_iret C E dX9_odds_31 h
    · have h := e5 e6
      refine v_ldc (n := -1000000001) C dX9_odds_16 wd_1024 (by decide) ?_
      exact v_iret C E dX9_odds_18 h
def wp_X9_write (v1 : Int) (v2 : Int) (T : TH) (Q : Int → TH → Prop) : Prop :=
  wp_X9_isOne v1 T (fun p2 T1 => (p2 = true → (wp_X9_in v2 (-999) 999 T1 (fun p4 T3 => (p4 = true → (zR (T3 13 31 0) ∧ (¬ (T3 13 31 0) = 15 → (0 ≤ (2 * (T3 13 31 0)) ∧ (2 * (T3 13 31 0)) < 30 ∧ ∀ T5 : TH, T5 = up T3 13 32 (2 * (T3 13 31 0)) v1 → 0 ≤ ((2 * (T5 13 31 0)) + 1) ∧ ((2 * (T5 13 31 0)) + 1) < 30 ∧ ∀ T6 : TH, T6 = up T5 13 32 ((2 * (T5 13 31 0)) + 1) v2 → ∀ T7 : TH, T7 = up T6 13 31 0 ((T6 13 31 0) + 1) → Q (T7 13 31 0) T7)) ∧ ((T3 13 31 0) = 15 → (Q (-1000000004) T3)))) ∧ (p4 = false → (Q (-1000000002) T3))))) ∧ (p2 = false → (Q (-1000000001) T1)))
set_option maxRecDepth 100000 in
theorem s_X9_write (G : GT) (l0 : Launch) {v1 : Int} {v2 : Int} {T : TH} {Q : Int → TH → Prop} (h : wp_X9_write v1 v2 T Q) : MT G l0 yX9_write cX9_write 3 (some .int) 2 43 [.ref (gad G 13), .int (zI v1), .int (zI v2)] T (QI G Q) := by
  refine mt_of G l0 (by decide) (Nat.le_of_ble_eq_true rfl) (fun X C E => ?_)
  show V G X T 0 [(0, .ref (gad G 13)), (1, .int (zI v1)), (2, .int (zI v2))] []
  unfold wp_X9_write at h
  refine v_aload_n C 0 dX9_write_0 rfl ?_
  refine v_iload_n C 1 dX9_write_1 rfl ?_
  refine v_cVZ C kX9 rfl (s_X9_isOne G l0 h) mv_X9_isOne wd_1033 ⟨by decide, by decide⟩ rfl rfl (Nat.le_of_ble_eq_true rfl) dX9_write_2 (fun p2 T1 h => ?_)
  obtain ⟨e1, e2⟩ := h
  refine v_ifz_ne (tgt := 11) C dX9_write_5 (by decide) (fun e3 => ?_) (fun e3 => ?_)
  · have h := e1 e3
    refine v_iload_n C 2 dX9_write_11 rfl ?_
    refine v_sipush C dX9_write_12 (by decide) ?_
    refine v_sipush C dX9_write_15 (by decide) ?_
    refine v_cSZ C (s_X9_in G l0 h) mv_X9_in wd_937 ⟨by decide, by decide⟩ rfl rfl (Nat.le_of_ble_eq_true rfl) dX9_write_18 (fun p4 T3 h => ?_)
    obtain ⟨e4, e5⟩ := h
    refine v_ifz_ne (tgt := 27) C dX9_write_21 (by decide) (fun e6 => ?_) (fun e6 => ?_)
    · have h := e4 e6
      refine v_aload_n C 0 dX9_write_27 rfl ?_
      refine v_getI C kX9 31 rfl rfl wd_847 rfl dX9_write_28 ?_
      refine v_bipush C dX9_write_31 (by decide) ?_
      obtain ⟨e7, e8, e9⟩ := h
      refine v_icmp_ne (tgt := 39) C dX9_write_33 (by decide) e7 ⟨by decide, by decide⟩ (fun e10 => ?_) (fun e10 => ?_)
      · have h := e8 e10
        refine v_aload_n C 0 dX9_write_39 rfl ?_
        refine v_getA C kX9 32 rfl rfl wd_848 rfl dX9_write_40 ?_
        refine v_iconst C dX9_write_43 ?_
        refine v_aload_n C 0 dX9_write_44 rfl ?_
        refine v_getI C kX9 31 rfl rfl wd_847 rfl dX9_write_45 ?_
        refine v_imul C dX9_write_48 ?_
        refine v_iload_n C 1 dX9_write_49 rfl ?_
        obtain ⟨e11, e12, h⟩ := h
        refine v_iast C (ar_of (o := 13) rfl ar_9_32) dX9_write_50 e11 e12 ?_
        have h := h _ rfl
        refine v_aload_n C 0 dX9_write_51 rfl ?_
        refine v_getA C kX9 32 rfl rfl wd_848 rfl dX9_write_52 ?_
        refine v_iconst C dX9_write_55 ?_
        refine v_aload_n C 0 dX9_write_56 rfl ?_
        refine v_getI C kX9 31 rfl rfl wd_847 rfl dX9_write_57 ?_
        refine v_imul C dX9_write_60 ?_
        refine v_iconst C dX9_write_61 ?_
        refine v_iadd C dX9_write_62 ?_
        refine v_iload_n C 2 dX9_write_63 rfl ?_
        obtain ⟨e13, e14, h⟩ := h
        refine v_iast C (ar_of (o := 13) rfl ar_9_32) dX9_write_64 e13 e14 ?_
        have h := h _ rfl
        refine v_aload_n C 0 dX9_write_65 rfl ?_
        refine v_dup C dX9_write_66 rfl ?_
        refine v_getI C kX9 31 rfl rfl wd_847 rfl dX9_write_67 ?_
        refine v_iconst C dX9_write_70 ?_
        refine v_iadd C dX9_write_71 ?_
        refine v_putI C kX9 31 rfl rfl wd_847 rfl rfl (tyX9_ok 31 (by decide)) dX9_write_72 ?_
        have h := h _ rfl
        refine v_aload_n C 0 dX9_write_75 rfl ?_
        refine v_getI C kX9 31 rfl rfl wd_847 rfl dX9_write_76 ?_
        exact v_iret C E dX9_write_79 h
      · have h := e9 e10
        refine v_ldc (n := -1000000004) C dX9_write_36 wd_941 (by decide) ?_
        exact v_iret C E dX9_write_38 h
    · have h := e5 e6
      refine v_ldc (n := -1000000002) C dX9_write_24 wd_940 (by decide) ?_
      exact v_iret C E dX9_write_26 h
  · have h := e2 e3
    refine v_ldc (n := -1000000001) C dX9_write_8 wd_1024 (by decide) ?_
    exact v_iret C E dX9_write_10 h
def wp_X9_tear (T : TH) (Q : Int → TH → Prop) : Prop :=
  ∀ w1 : Int, w1 = (T 13 31 0) → ∀ T2 : TH, T2 = up T 13 31 0 0 → Q w1 T2
set_option maxRecDepth 100000 in
theorem s_X9_tear (G : GT) (l0 : Launch) {T : TH} {Q : Int → TH → Prop} (h : wp_X9_tear T Q) : MT G l0 yX9_tear cX9_tear 2 (some .int) 0 0 [.ref (gad G 13)] T (QI G Q) := by
  refine mt_of G l0 (by decide) (Nat.le_of_ble_eq_true rfl) (fun X C E => ?_)
  show V G X T 0 [(0, .ref (gad G 13))] []
  unfold wp_X9_tear at h
  refine v_aload_n C 0 dX9_tear_0 rfl ?_
  refine v_getI C kX9 31 rfl rfl wd_847 rfl dX9_tear_1 ?_
  refine v_istore_n C dX9_tear_4 rfl (by decide) ?_
  have h := h _ rfl
  refine v_aload_n C 1 dX9_tear_5 rfl ?_
  refine v_iconst C dX9_tear_6 ?_
  refine v_putI C kX9 31 rfl rfl wd_847 rfl rfl (tyX9_ok 31 (by decide)) dX9_tear_7 ?_
  have h := h _ rfl
  refine v_iload_n C 0 dX9_tear_10 rfl ?_
  exact v_iret C E dX9_tear_11 h
def h_X9_judge_2 (Q : Int → TH → Prop) : Nat → Int → TH → Prop
  | 0, _, _ => False
  | n + 1, v1, T => zR v1 ∧ zR (T 13 31 0) ∧ ((T 13 31 0) ≤ v1 → (Q (-1) T)) ∧ (¬ ((T 13 31 0) ≤ v1) → (0 ≤ (2 * v1) ∧ (2 * v1) < 30 ∧ wp_X9_weightOf 13 26 58 (T 13 32 (2 * v1)) T (fun r2 T1 => 0 ≤ ((2 * v1) + 1) ∧ ((2 * v1) + 1) < 30 ∧ zR r2 ∧ zR (T1 13 32 ((2 * v1) + 1)) ∧ (r2 = (T1 13 32 ((2 * v1) + 1)) → ((h_X9_judge_2 Q n) (v1 + 1) T1)) ∧ (¬ (r2 = (T1 13 32 ((2 * v1) + 1))) → (Q v1 T1)))))
def wp_X9_judge (T : TH) (Q : Int → TH → Prop) : Prop :=
  (∃ m9 : Nat, h_X9_judge_2 Q m9 0 T)
set_option maxRecDepth 100000 in
theorem t_X9_judge_2 {G : GT} {l0 : Launch} {X : CX} (C : CT G l0 X cX9_judge 2 RX9 (rM 3 71)) {Q : Int → TH → Prop} (E : EN G X (some .int) (QI G Q)) : ∀ (n : Nat) (v1 : Int) (T : TH), h_X9_judge_2 Q n v1 T → V G X T 2 [(0, .ref (gad G 13)), (1, .int (zI v1))] [] := by
  intro n
  induction n with
  | zero =>
    intro v1 T h
    exact h.elim
  | succ n ih =>
    intro v1 T h
    rw [h_X9_judge_2] at h
    refine v_iload_n C 1 dX9_judge_2 rfl ?_
    refine v_aload_n C 0 dX9_judge_3 rfl ?_
    refine v_getI C kX9 31 rfl rfl wd_847 rfl dX9_judge_4 ?_
    obtain ⟨e1, e2, e3, e4⟩ := h
    refine v_icmp_ge (tgt := 47) C dX9_judge_7 (by decide) e1 e2 (fun e5 => ?_) (fun e5 => ?_)
    · have h := e3 e5
      refine v_iconst C dX9_judge_47 ?_
      exact v_iret C E dX9_judge_48 h
    · have h := e4 e5
      refine v_aload_n C 0 dX9_judge_10 rfl ?_
      refine v_aload_n C 0 dX9_judge_11 rfl ?_
      refine v_getA C kX9 26 rfl rfl wd_842 rfl dX9_judge_12 ?_
      refine v_aload_n C 0 dX9_judge_15 rfl ?_
      refine v_getA C kX9 32 rfl rfl wd_848 rfl dX9_judge_16 ?_
      refine v_iconst C dX9_judge_19 ?_
      refine v_iload_n C 1 dX9_judge_20 rfl ?_
      refine v_imul C dX9_judge_21 ?_
      obtain ⟨e6, e7, h⟩ := h
      refine v_iald C (ar_of (o := 13) rfl ar_9_32) dX9_judge_22 e6 e7 ?_
      refine v_cVI C kX9 rfl (s_X9_weightOf G l0 (ar_of (o := 13) rfl ar_9_26) h) mv_X9_weightOf wd_1049 ⟨by decide, by decide⟩ rfl rfl (Nat.le_of_ble_eq_true rfl) dX9_judge_23 (fun r2 T1 h => ?_)
      refine v_aload_n C 0 dX9_judge_26 rfl ?_
      refine v_getA C kX9 32 rfl rfl wd_848 rfl dX9_judge_27 ?_
      refine v_iconst C dX9_judge_30 ?_
      refine v_iload_n C 1 dX9_judge_31 rfl ?_
      refine v_imul C dX9_judge_32 ?_
      refine v_iconst C dX9_judge_33 ?_
      refine v_iadd C dX9_judge_34 ?_
      obtain ⟨e8, e9, h⟩ := h
      refine v_iald C (ar_of (o := 13) rfl ar_9_32) dX9_judge_35 e8 e9 ?_
      obtain ⟨e10, e11, e12, e13⟩ := h
      refine v_icmp_eq (tgt := 41) C dX9_judge_36 (by decide) e10 e11 (fun e14 => ?_) (fun e14 => ?_)
      · have h := e12 e14
        refine v_iinc C 1 dX9_judge_41 rfl (by decide) ?_
        refine v_goto (tgt := 2) C dX9_judge_44 (by decide) ?_
        exact v_sub [1, 0] rfl (ih _ _ h)
      · have h := e13 e14
        refine v_iload_n C 1 dX9_judge_39 rfl ?_
        exact v_iret C E dX9_judge_40 h
set_option maxRecDepth 100000 in
theorem s_X9_judge (G : GT) (l0 : Launch) {T : TH} {Q : Int → TH → Prop} (h : wp_X9_judge T Q) : MT G l0 yX9_judge cX9_judge 2 (some .int) 3 71 [.ref (gad G 13)] T (QI G Q) := by
  refine mt_of G l0 (by decide) (Nat.le_of_ble_eq_true rfl) (fun X C E => ?_)
  show V G X T 0 [(0, .ref (gad G 13))] []
  unfold wp_X9_judge at h
  refine v_iconst C dX9_judge_0 ?_
  refine v_istore_n C dX9_judge_1 rfl (by decide) ?_
  obtain ⟨n9, h⟩ := h
  exact v_sub [1, 0] rfl (t_X9_judge_2 C E n9 _ _ h)
def wp_X9_seed (v1 : Int) (T : TH) (Q : Int → TH → Prop) : Prop :=
  zR v1 ∧ (0 ≤ v1 → (∀ w1 : Int, w1 = (T 13 26 57) → ∀ T2 : TH, T2 = up T 13 26 57 v1 → Q w1 T2)) ∧ (¬ (0 ≤ v1) → (Q (-1000000002) T))
set_option maxRecDepth 100000 in
theorem s_X9_seed (G : GT) (l0 : Launch) {v1 : Int} {T : TH} {Q : Int → TH → Prop} (h : wp_X9_seed v1 T Q) : MT G l0 yX9_seed cX9_seed 3 (some .int) 0 0 [.ref (gad G 13), .int (zI v1)] T (QI G Q) := by
  refine mt_of G l0 (by decide) (Nat.le_of_ble_eq_true rfl) (fun X C E => ?_)
  show V G X T 0 [(0, .ref (gad G 13)), (1, .int (zI v1))] []
  unfold wp_X9_seed at h
  refine v_iload_n C 1 dX9_seed_0 rfl ?_
  obtain ⟨e1, e2, e3⟩ := h
  refine v_if_ge (tgt := 7) C dX9_seed_1 (by decide) e1 (fun e4 => ?_) (fun e4 => ?_)
  · have h := e2 e4
    refine v_aload_n C 0 dX9_seed_7 rfl ?_
    refine v_getA C kX9 26 rfl rfl wd_842 rfl dX9_seed_8 ?_
    refine v_bipush C dX9_seed_11 (by decide) ?_
    refine v_iald C (ar_of (o := 13) rfl ar_9_26) dX9_seed_13 (by decide) (by decide) ?_
    refine v_istore_n C dX9_seed_14 rfl (by decide) ?_
    have h := h _ rfl
    refine v_aload_n C 1 dX9_seed_15 rfl ?_
    refine v_getA C kX9 26 rfl rfl wd_842 rfl dX9_seed_16 ?_
    refine v_bipush C dX9_seed_19 (by decide) ?_
    refine v_iload_n C 2 dX9_seed_21 rfl ?_
    refine v_iast C (ar_of (o := 13) rfl ar_9_26) dX9_seed_22 (by decide) (by decide) ?_
    have h := h _ rfl
    refine v_iload_n C 0 dX9_seed_23 rfl ?_
    exact v_iret C E dX9_seed_24 h
  · have h := e3 e4
    refine v_ldc (n := -1000000002) C dX9_seed_4 wd_940 (by decide) ?_
    exact v_iret C E dX9_seed_6 h
def wp_X9_keep (v1 : Int) (T : TH) (Q : Int → TH → Prop) : Prop :=
  wp_X9_in v1 0 1 T (fun p2 T1 => (p2 = true → (wp_X9_copy 13 26 58 0 13 29 116 (58 * v1) T1 (fun T3 => 0 ≤ v1 ∧ v1 < 2 ∧ ∀ T4 : TH, T4 = up T3 13 30 v1 1 → Q 1 T4))) ∧ (p2 = false → (Q (-1000000001) T1)))
set_option maxRecDepth 100000 in
theorem s_X9_keep (G : GT) (l0 : Launch) {v1 : Int} {T : TH} {Q : Int → TH → Prop} (h : wp_X9_keep v1 T Q) : MT G l0 yX9_keep cX9_keep 2 (some .int) 1 24 [.ref (gad G 13), .int (zI v1)] T (QI G Q) := by
  refine mt_of G l0 (by decide) (Nat.le_of_ble_eq_true rfl) (fun X C E => ?_)
  show V G X T 0 [(0, .ref (gad G 13)), (1, .int (zI v1))] []
  unfold wp_X9_keep at h
  refine v_iload_n C 1 dX9_keep_0 rfl ?_
  refine v_iconst C dX9_keep_1 ?_
  refine v_iconst C dX9_keep_2 ?_
  refine v_cSZ C (s_X9_in G l0 h) mv_X9_in wd_937 ⟨by decide, by decide⟩ rfl rfl (Nat.le_of_ble_eq_true rfl) dX9_keep_3 (fun p2 T1 h => ?_)
  obtain ⟨e1, e2⟩ := h
  refine v_ifz_ne (tgt := 12) C dX9_keep_6 (by decide) (fun e3 => ?_) (fun e3 => ?_)
  · have h := e1 e3
    refine v_aload_n C 0 dX9_keep_12 rfl ?_
    refine v_getA C kX9 26 rfl rfl wd_842 rfl dX9_keep_13 ?_
    refine v_iconst C dX9_keep_16 ?_
    refine v_aload_n C 0 dX9_keep_17 rfl ?_
    refine v_getA C kX9 29 rfl rfl wd_845 rfl dX9_keep_18 ?_
    refine v_bipush C dX9_keep_21 (by decide) ?_
    refine v_iload_n C 1 dX9_keep_23 rfl ?_
    refine v_imul C dX9_keep_24 ?_
    refine v_cSN C (s_X9_copy G l0 (ar_of (o := 13) rfl ar_9_26) (ar_of (o := 13) rfl ar_9_29) h) mv_X9_copy wd_1087 ⟨by decide, by decide⟩ rfl rfl (Nat.le_of_ble_eq_true rfl) dX9_keep_25 (fun T3 h => ?_)
    refine v_aload_n C 0 dX9_keep_28 rfl ?_
    refine v_getA C kX9 30 rfl rfl wd_846 rfl dX9_keep_29 ?_
    refine v_iload_n C 1 dX9_keep_32 rfl ?_
    refine v_iconst C dX9_keep_33 ?_
    obtain ⟨e4, e5, h⟩ := h
    refine v_zast C (ar_of (o := 13) rfl ar_9_30) (by decide) dX9_keep_34 e4 e5 ?_
    have h := h _ rfl
    refine v_iconst C dX9_keep_35 ?_
    exact v_iret C E dX9_keep_36 h
  · have h := e2 e3
    refine v_ldc (n := -1000000001) C dX9_keep_9 wd_1024 (by decide) ?_
    exact v_iret C E dX9_keep_11 h
def wp_X9_goBack (v1 : Int) (T : TH) (Q : Int → TH → Prop) : Prop :=
  wp_X9_in v1 0 1 T (fun p2 T1 => (p2 = true → (0 ≤ v1 ∧ v1 < 2 ∧ zR (T1 13 30 v1) ∧ (¬ (T1 13 30 v1) = 0 → (wp_X9_copy 13 29 116 (58 * v1) 13 26 58 0 T1 (fun T3 => Q 1 T3))) ∧ ((T1 13 30 v1) = 0 → (Q (-1000000003) T1)))) ∧ (p2 = false → (Q (-1000000001) T1)))
set_option maxRecDepth 100000 in
theorem s_X9_goBack (G : GT) (l0 : Launch) {v1 : Int} {T : TH} {Q : Int → TH → Prop} (h : wp_X9_goBack v1 T Q) : MT G l0 yX9_goBack cX9_goBack 2 (some .int) 1 24 [.ref (gad G 13), .int (zI v1)] T (QI G Q) := by
  refine mt_of G l0 (by decide) (Nat.le_of_ble_eq_true rfl) (fun X C E => ?_)
  show V G X T 0 [(0, .ref (gad G 13)), (1, .int (zI v1))] []
  unfold wp_X9_goBack at h
  refine v_iload_n C 1 dX9_goBack_0 rfl ?_
  refine v_iconst C dX9_goBack_1 ?_
  refine v_iconst C dX9_goBack_2 ?_
  refine v_cSZ C (s_X9_in G l0 h) mv_X9_in wd_937 ⟨by decide, by decide⟩ rfl rfl (Nat.le_of_ble_eq_true rfl) dX9_goBack_3 (fun p2 T1 h => ?_)
  obtain ⟨e1, e2⟩ := h
  refine v_ifz_ne (tgt := 12) C dX9_goBack_6 (by decide) (fun e3 => ?_) (fun e3 => ?_)
  · have h := e1 e3
    refine v_aload_n C 0 dX9_goBack_12 rfl ?_
    refine v_getA C kX9 30 rfl rfl wd_846 rfl dX9_goBack_13 ?_
    refine v_iload_n C 1 dX9_goBack_16 rfl ?_
    obtain ⟨e4, e5, h⟩ := h
    refine v_zald C (ar_of (o := 13) rfl ar_9_30) dX9_goBack_17 e4 e5 ?_
    obtain ⟨e6, e7, e8⟩ := h
    refine v_if_ne (tgt := 24) C dX9_goBack_18 (by decide) e6 (fun e9 => ?_) (fun e9 => ?_)
    · have h := e7 e9
      refine v_aload_n C 0 dX9_goBack_24 rfl ?_
      refine v_getA C kX9 29 rfl rfl wd_845 rfl dX9_goBack_25 ?_
      refine v_bipush C dX9_goBack_28 (by decide) ?_
      refine v_iload_n C 1 dX9_goBack_30 rfl ?_
      refine v_imul C dX9_goBack_31 ?_
      refine v_aload_n C 0 dX9_goBack_32 rfl ?_
      refine v_getA C kX9 26 rfl rfl wd_842 rfl dX9_goBack_33 ?_
      refine v_iconst C dX9_goBack_36 ?_
      refine v_cSN C (s_X9_copy G l0 (ar_of (o := 13) rfl ar_9_29) (ar_of (o := 13) rfl ar_9_26) h) mv_X9_copy wd_1087 ⟨by decide, by decide⟩ rfl rfl (Nat.le_of_ble_eq_true rfl) dX9_goBack_37 (fun T3 h => ?_)
      refine v_iconst C dX9_goBack_40 ?_
      exact v_iret C E dX9_goBack_41 h
    · have h := e8 e9
      refine v_ldc (n := -1000000003) C dX9_goBack_21 wd_1073 (by decide) ?_
      exact v_iret C E dX9_goBack_23 h
  · have h := e2 e3
    refine v_ldc (n := -1000000001) C dX9_goBack_9 wd_1024 (by decide) ?_
    exact v_iret C E dX9_goBack_11 h
