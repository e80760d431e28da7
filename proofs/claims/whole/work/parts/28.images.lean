/-! images, the beginning -/
theorem InvA.imgs {T T' : TH} {A : LA} {S : HA} (H : InvA T A S) (f : ∀ o j i, ¬ scr (T 0 1 0).toNat o j → ¬ (o = 6 ∨ o = 7) → ¬ (o = 0 ∧ j = 6) → ¬ (o = 13 ∧ (j = 29 ∨ j = 30)) → T' o j i = T o j i) (hR : ImgR T' A) : InvA T' A S := by
  obtain ⟨a1, a2, a3, a4, a5, a6, a7, a8, a9, a10, a11, a12⟩ := H
  have h23 := lOK_23 a1
  have g : ∀ o j i, ¬ scr (T 0 1 0).toNat o j ∧ ¬ (o = 6 ∨ o = 7) ∧ ¬ (o = 0 ∧ j = 6) ∧ ¬ (o = 13 ∧ (j = 29 ∨ j = 30)) → T' o j i = T o j i := fun o j i h => f o j i h.1 h.2.1 h.2.2.1 h.2.2.2
  have e01 : T' 0 1 0 = T 0 1 0 := g 0 1 0 (by unfold scr; omega)
  have e02 : T' 0 2 0 = T 0 2 0 := g 0 2 0 (by unfold scr; omega)
  refine ⟨by unfold lOK; rw [e01, e02]; exact a1, by rw [e01, e02]; exact a2, a3, a4, a5.off (fun j i hj => g _ _ _ (by unfold scr; omega)), ?_, a7.eq (fun i _ _ => g _ _ _ (by unfold scr; omega)), a8.eq (g _ _ _ (by unfold scr; omega)) (g _ _ _ (by unfold scr; omega)) (fun i _ _ => g _ _ _ (by unfold scr; omega)) (fun i _ _ => g _ _ _ (by unfold scr; omega)), a9.eq (g _ _ _ (by unfold scr; omega)) (g _ _ _ (by unfold scr; omega)) (fun i => g _ _ _ (by unfold scr; omega)) (fun i => g _ _ _ (by unfold scr; omega)), ?_, a11.eq (g _ _ _ (by unfold scr; omega)) (g _ _ _ (by unfold scr; omega)) (fun i => g _ _ _ (by unfold scr; omega)) (fun i => g _ _ _ (by unfold scr; omega)) (fun i => g _ _ _ (by unfold scr; omega)), hR⟩
  · rw [e01]
    exact a6.eq (fun j i => g _ _ _ (by unfold scr; omega))
  · unfold FaultR
    rw [g 1 2 0 (by unfold scr; omega), g 13 6 0 (by unfold scr; omega)]
    exact a10
theorem st_keep {T : TH} (H : Inv T) {v : Int} (hv : zR v) : wp_X8_keep v T (fun r1 T1 => wp_X9_keep v T1 (fun r2 T2 => r1 = r2 ∧ zR r1 ∧ Inv T2)) := by
  obtain ⟨A, S, h⟩ := H
  have h0 := h
  obtain ⟨a1, a2, a3, a4, a5, a6, a7, a8, a9, a10, a11, a12⟩ := h
  have out : ¬ (0 ≤ v ∧ v ≤ 1) → wp_X9_keep v T (fun r2 T2 => -1000000001 = r2 ∧ zR (-1000000001) ∧ Inv T2) := by
    intro hn
    unfold wp_X9_keep
    refine sp9_in hv (by unfold zR; omega) (by unfold zR; omega) ?_
    exact dec_tf (fun q => absurd q hn) (fun _ => ⟨rfl, zRu, A, S, h0⟩)
  unfold wp_X8_keep
  refine ⟨hv, fun q => out (by omega), fun q => ⟨hv, fun q2 => ⟨by omega, q2, ?_⟩, fun q2 => out (by omega)⟩⟩
  have hy : 0 ≤ v ∧ v ≤ 1 := by omega
  refine sp_copyFrom (by omega) a8 (fun T1 c1 c2 => ?_)
  intro T2 hT2
  have e2 : ∀ o j i, ¬ (o = 0 ∧ j = 6) → T2 o j i = T1 o j i := fun o j i hn => by rw [hT2, up_ne (by omega)]
  unfold wp_X9_keep
  refine sp9_in hv (by unfold zR; omega) (by unfold zR; omega) ?_
  refine dec_tf (fun _ => ?_) (fun q => absurd hy q)
  refine sp9_copy (by decide) (by decide) (by decide) (by omega) (by omega) (fun T3 d1 d2 => ⟨by omega, by omega, ?_⟩)
  intro T4 hT4
  have e4 : ∀ o j i, ¬ (o = 13 ∧ j = 30 ∧ i = v) → T4 o j i = T3 o j i := fun o j i hn => by rw [hT4, up_ne (by omega)]
  obtain ⟨i1, i2⟩ := a12
  obtain ⟨p1, p2⟩ := put_b i1 hy.1 (by omega : v < (2 : Nat)) (by decide)
  have k6 : T4 0 6 0 = zor (T 0 6 0) (zshl 1 v) := by
    rw [e4 _ _ _ (by omega), d2 _ _ _ (by omega), hT2, up_eq, c2 _ _ _ (by omega)]
  refine ⟨rfl, by unfold zR; omega, A, S, h0.imgs (fun o j i s1 s2 s3 s4 => ?_) ⟨by rw [k6]; exact p1, fun i x0 x1 => ?_⟩⟩
  · rw [e4 _ _ _ (by omega), d2 _ _ _ (by omega), e2 _ _ _ s3, c2 _ _ _ (by omega)]
  · rw [k6, p2 i x0]
    by_cases e : i = v
    · subst e
      rw [decide_eq_true rfl, Bool.or_true]
      refine ⟨by rw [hT4, up_eq]; rfl, fun _ => ⟨S, a4, ?_, ?_⟩⟩
      · refine a7.eq (fun k k0 k1 => ?_)
        rw [e4 _ _ _ (by omega), d1 k k0 k1, e2 _ _ _ (by omega), c2 _ _ _ (by omega)]
      · refine c1.eq ?_ ?_ (fun _ _ _ => ?_) (fun _ _ _ => ?_) <;> rw [e4 _ _ _ (by omega), d2 _ _ _ (by omega), e2 _ _ _ (by omega)]
    · rw [decide_eq_false e, Bool.or_false]
      obtain ⟨j1, j2⟩ := i2 i x0 x1
      refine ⟨?_, fun hb => ?_⟩
      · rw [e4 _ _ _ (by omega), d2 _ _ _ (by omega), e2 _ _ _ (by omega), c2 _ _ _ (by omega)]
        exact j1
      · obtain ⟨S', s1, s2, s3⟩ := j2 hb
        refine ⟨S', s1, s2.eq (fun k k0 k1 => ?_), s3.eq ?_ ?_ (fun _ _ _ => ?_) (fun _ _ _ => ?_)⟩ <;> rw [e4 _ _ _ (by omega), d2 _ _ _ (by omega), e2 _ _ _ (by omega), c2 _ _ _ (by omega)]
theorem st_goBack {T : TH} (H : Inv T) {v : Int} (hv : zR v) : wp_X8_goBack v T (fun r1 T1 => wp_X9_goBack v T1 (fun r2 T2 => r1 = r2 ∧ zR r1 ∧ Inv T2)) := by
  obtain ⟨A, S, h⟩ := H
  have h0 := h
  obtain ⟨a1, a2, a3, a4, a5, a6, a7, a8, a9, a10, a11, a12⟩ := h
  obtain ⟨i1, i2⟩ := a12
  have out : ¬ (0 ≤ v ∧ v ≤ 1) → wp_X9_goBack v T (fun r2 T2 => -1000000001 = r2 ∧ zR (-1000000001) ∧ Inv T2) := by
    intro hn
    unfold wp_X9_goBack
    refine sp9_in hv (by unfold zR; omega) (by unfold zR; omega) ?_
    exact dec_tf (fun q => absurd q hn) (fun _ => ⟨rfl, zRu, A, S, h0⟩)
  unfold wp_X8_goBack
  refine ⟨hv, fun q => out (by omega), fun q => ⟨hv, fun q2 => ?_, fun q2 => out (by omega)⟩⟩
  have hy : 0 ≤ v ∧ v ≤ 1 := by omega
  obtain ⟨j1, j2⟩ := i2 v hy.1 (by omega)
  refine bit_en (ms_up i1 (by decide)) hy.1 (by omega) (fun hb => ?_) (fun hb => ⟨hy.1, by omega, ?_⟩)
  · unfold wp_X9_goBack
    refine sp9_in hv (by unfold zR; omega) (by unfold zR; omega) ?_
    refine dec_tf (fun _ => ?_) (fun q => absurd hy q)
    rw [j1, hb]
    exact ⟨hy.1, by omega, zi_R _, fun q => absurd rfl q, fun _ => ⟨rfl, zRn, A, S, h0⟩⟩
  · obtain ⟨S', s1, s2, s3⟩ := j2 hb
    refine sp_copyFrom (by omega) s3 (fun T1 c1 c2 => ?_)
    unfold wp_X9_goBack
    refine sp9_in hv (by unfold zR; omega) (by unfold zR; omega) ?_
    refine dec_tf (fun _ => ?_) (fun q => absurd hy q)
    rw [c2 13 30 v (by omega), j1, hb]
    refine ⟨hy.1, by omega, zi_R _, fun _ => ?_, fun q => absurd q (by decide)⟩
    refine sp9_copy (by decide) (by omega) (by omega) (by omega) (by decide) (fun T3 d1 d2 => ?_)
    refine ⟨rfl, by unfold zR; omega, A, S', h0.heads (fun o j i q1 q2 q3 => ?_) s1 (s2.eq (fun k k0 k1 => ?_)) (c1.eq ?_ ?_ (fun _ _ _ => ?_) (fun _ _ _ => ?_))⟩
    · rw [d2 _ _ _ (by omega), c2 _ _ _ (by omega)]
    · rw [d1 k k0 k1, c2 _ _ _ (by omega)]
    all_goals rw [d2 _ _ _ (by omega)]
theorem sp9_begin {T : TH} {Q : TH → Prop} (hq : ∀ T', (∀ k : Int, 0 ≤ k → k < 56 → T' 13 26 k = -1) → T' 13 26 56 = 0 → T' 13 30 0 = 0 → T' 13 30 1 = 0 → T' 13 31 0 = 0 → (∀ o j i, ¬ (o = 13 ∧ j = 26 ∧ 0 ≤ i ∧ i < 57) → ¬ (o = 13 ∧ (j = 30 ∨ j = 31)) → T' o j i = T o j i) → Q T') : wp_X9_begin T Q := by
  unfold wp_X9_begin
  refine ⟨56 + 1, ?_⟩
  have key : ∀ (d i : Nat) (T1 : TH), i + d = 56 → (∀ k : Int, 0 ≤ k → k < (i : Int) → T1 13 26 k = -1) → (∀ (o j : Nat) (x : Int), ¬ (o = 13 ∧ j = 26 ∧ 0 ≤ x ∧ x < (i : Int)) → T1 o j x = T o j x) → h_X9_begin_2 Q (d + 1) i T1 := by
    intro d
    induction d with
    | zero =>
      intro i T1 hi k1 k2
      have : i = 56 := by omega
      subst this
      rw [h_X9_begin_2]
      refine ⟨by unfold zR; omega, fun _ => ?_, fun h => absurd (by omega) h⟩
      intro T2 h2 T3 h3 T4 h4 T5 h5
      refine hq T5 (fun k k0 kk => ?_) ?_ ?_ ?_ ?_ (fun o j x n1 n2 => ?_)
      · rw [h5, up_ne (by omega), h4, up_ne (by omega), h3, up_ne (by omega), h2, up_ne (by omega)]
        exact k1 k k0 kk
      · rw [h5, up_ne (by omega), h4, up_ne (by omega), h3, up_ne (by omega), h2, up_eq]
      · rw [h5, up_ne (by omega), h4, up_ne (by omega), h3, up_eq]
      · rw [h5, up_ne (by omega), h4, up_eq]
      · rw [h5, up_eq]
      · rw [h5, up_ne (by omega), h4, up_ne (by omega), h3, up_ne (by omega), h2, up_ne (by omega)]
        exact k2 o j x (by omega)
    | succ d ih =>
      intro i T1 hi k1 k2
      rw [h_X9_begin_2]
      refine ⟨by unfold zR; omega, fun h => absurd h (by omega), fun _ => ⟨by omega, by omega, ?_⟩⟩
      rintro _ rfl
      refine ih (i + 1) _ (by omega) (fun k k0 kk => ?_) (fun o j x hn => ?_)
      · by_cases e : k = i
        · subst e
          rw [up_eq]
        · rw [up_ne (by omega)]
          exact k1 k k0 (by omega)
      · rw [up_ne (by omega)]
        exact k2 o j x (by omega)
  exact key 56 0 T (by omega) (fun k k0 k1 => by omega) (fun _ _ _ _ => rfl)
/-! the empty land -/
def A0 : LA := fun _ _ => 0
def S0 : HA := fun k _ _ => if k = 0 then -1 else 0
theorem T0_z {o j : Nat} {i : Int} (h1 : ¬ (o = 13 ∧ j = 6)) (h2 : ¬ (o = 1 ∧ j = 2)) (h3 : ¬ (o = 0 ∧ (j = 1 ∨ j = 2))) : T0 o j i = 0 := by
  have e : ∀ a b : Nat, Nat.beq a b = decide (a = b) := fun a b => by
    rw [Bool.eq_iff_iff, Nat.beq_eq, decide_eq_true_iff]
  unfold T0
  simp only [e]
  by_cases o13 : o = 13 <;> by_cases j6 : j = 6 <;> by_cases o1 : o = 1 <;> by_cases j2 : j = 2 <;> by_cases o0 : o = 0 <;> by_cases j1 : j = 1 <;> simp_all <;> omega
theorem ms_7z (n : Nat) : ms n (0 : Int) := ms_0 n
theorem A0_ok : LAok A0 := by
  refine ⟨by decide, by decide, by decide, by decide, by decide, ms_0 7, fun f f0 f1 => ?_, fun f f0 f1 => ?_, fun f f0 f1 => ?_⟩ <;> exact absurd f1 (by show ¬ f < 0; omega)
theorem begin_Inv : wp_X9_begin T0 Inv := by
  refine sp9_begin (fun T h1 h2 h3 h4 h5 h6 => ?_)
  have z : ∀ (o j : Nat) (i : Int), ¬ (o = 13 ∧ (j = 6 ∨ j = 26 ∨ j = 30 ∨ j = 31)) → ¬ (o = 1 ∧ j = 2) → ¬ (o = 0 ∧ (j = 1 ∨ j = 2)) → T o j i = 0 := fun o j i n1 n2 n3 => by
    rw [h6 o j i (by omega) (by omega)]
    exact T0_z (by omega) (by omega) (by omega)
  have l1 : T 0 1 0 = 2 := h6 0 1 0 (by omega) (by omega)
  have l2 : T 0 2 0 = 3 := h6 0 2 0 (by omega) (by omega)
  refine ⟨A0, S0, ⟨Or.inl l1, Or.inr l2⟩, by rw [l1, l2]; decide, A0_ok, ?_, ?_, ?_, ?_, ?_, ?_, ?_, ?_, ?_⟩
  · exact ⟨by decide, by decide, fun p f _ _ _ _ => Or.inl rfl⟩
  · refine ⟨z _ _ _ (by omega) (by omega) (by omega), z _ _ _ (by omega) (by omega) (by omega), z _ _ _ (by omega) (by omega) (by omega), z _ _ _ (by omega) (by omega) (by omega), z _ _ _ (by omega) (by omega) (by omega), z _ _ _ (by omega) (by omega) (by omega), fun f f0 f1 => ?_, fun f f0 f1 => ?_, fun f f0 f1 => ?_⟩ <;> exact absurd f1 (by show ¬ f < 0; omega)
  · rw [l1]
    have zz : ∀ (j : Nat) (i : Int), T (2 : Int).toNat j i = 0 := fun j i => z 2 j i (by omega) (by omega) (by omega)
    refine ⟨zz _ _, zz _ _, zz _ _, zz _ _, zz _ _, zz _ _, ⟨by rw [zz]; exact ms_0 8, fun f f0 f1 => ?_⟩, fun f f0 f1 => ?_, fun f f0 f1 => ?_, fun f f0 f1 => ?_, fun f f0 f1 => ?_, fun f f0 f1 => ?_⟩ <;> exact absurd f1 (by show ¬ f < 0; omega)
  · refine ⟨fun p f p0 p1 f0 f1 => ?_, h2, ?_⟩
    · rw [Int.zero_add]
      exact h1 _ (by omega) (by omega)
    · rw [h6 13 26 (0 + 57) (by omega) (by omega)]
      exact T0_z (by omega) (by omega) (by omega)
  · refine ⟨z _ _ _ (by omega) (by omega) (by omega), z _ _ _ (by omega) (by omega) (by omega), fun f f0 f1 => ?_, fun p f _ _ _ _ q => absurd rfl q⟩
    rw [z 4 2 f (by omega) (by omega) (by omega)]
    refine ⟨ms_0 7, fun p p0 p1 => ?_⟩
    rw [bt_0]
    rfl
  · refine ⟨?_, ?_, fun i i0 i1 => ?_⟩
    · rw [z 1 1 0 (by omega) (by omega) (by omega), z 13 0 0 (by omega) (by omega) (by omega)]
    · rw [z 13 0 0 (by omega) (by omega) (by omega)]
      decide
    · rw [z 13 0 0 (by omega) (by omega) (by omega)] at i1
      omega
  · have e1 : T 1 2 0 = -1 := h6 1 2 0 (by omega) (by omega)
    have e2 : T 13 6 0 = -1 := h6 13 6 0 (by omega) (by omega)
    exact ⟨by rw [e1, e2], by rw [e2]; decide, by rw [e2]; decide⟩
  · refine ⟨?_, by rw [h5]; decide, fun i i0 i1 => ?_⟩
    · rw [h5, z 8 0 0 (by omega) (by omega) (by omega)]
    · rw [h5] at i1
      omega
  · have e : T 0 6 0 = 0 := z 0 6 0 (by omega) (by omega) (by omega)
    refine ⟨by rw [e]; exact ms_0 2, fun i i0 i1 => ?_⟩
    rw [e, bt_0]
    refine ⟨?_, fun q => absurd q (by decide)⟩
    have : i = 0 ∨ i = 1 := by omega
    rcases this with rfl | rfl
    · exact h3
    · exact h4
