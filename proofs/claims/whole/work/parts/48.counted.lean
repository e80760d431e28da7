/-! counted -/
theorem wyS_cg {A : LA} {P P' : Int → Bool} : ∀ {i : Nat} (w : Int), (∀ f : Int, 0 ≤ f → f < i → P f = P' f) → wyS A P i w = wyS A P' i w
  | 0, w, _ => by rw [wyS_0, wyS_0]
  | i + 1, w, h => by
    have ih := fun w => wyS_cg (A := A) (P := P) (P' := P') (i := i) w (fun f f0 f1 => h f f0 (by omega))
    rw [wyS_s, wyS_s, h i (by omega) (by omega), ih w]
    by_cases e : P' i = true
    · rw [if_pos e, if_pos e]
      exact sZ_congr (fun k _ _ => ih _)
    · rw [if_neg e, if_neg e]
theorem cwB_cg {A : LA} {P P' : Int → Bool} (h : ∀ f : Int, 0 ≤ f → f < (A 1 0).toNat → P f = P' f) (f w : Int) : cwB A P f w = cwB A P' f w := by
  funext x
  unfold cwB
  rw [wyS_cg _ h]
theorem lwF_R (C : Int → Bool) : ∀ (d : Nat) (i : Int), lwF C d i = -1 ∨ (i ≤ lwF C d i ∧ lwF C d i < i + d)
  | 0, i => Or.inl rfl
  | d + 1, i => by
    rw [lwF]
    split
    · exact Or.inr ⟨by omega, by omega⟩
    · have := lwF_R C d (i + 1)
      omega
theorem mxF_R (C : Int → Bool) : ∀ d : Nat, -1 ≤ mxF C d ∧ mxF C d < d
  | 0 => by
    rw [mxF]
    decide
  | d + 1 => by
    have := mxF_R C d
    rw [mxF]
    split <;> omega
theorem st_counted {T : TH} (H : Inv T) {p w f v : Int} (hp : zR p) (hw : zR w) (hf : zR f) (hv : zR v) : wp_X8_counted p w f v T (fun r1 T1 => wp_X9_counted p w f v T1 (fun r2 T2 => r1 = r2 ∧ zR r1 ∧ Inv T2)) := by
  obtain ⟨A, S, h⟩ := H
  have h0 := h
  obtain ⟨a1, a2, a3, a4, a5, a6, a7, a8, a9, a10, a11, a12⟩ := h
  have h23 := lOK_23 a1
  have n0 := a3.1
  have n1 := a3.2.1
  have unk : ¬ ((0 ≤ p ∧ p < A 0 0) ∧ (f = -1 ∨ (0 ≤ f ∧ f < A 1 0))) → wp_X9_counted p w f v T (fun r2 T2 => -1000000001 = r2 ∧ zR (-1000000001) ∧ Inv T2) := by
    intro hno
    unfold wp_X9_counted
    refine sp9_isOne a3 a5 hp ?_
    refine dec_ft (fun _ => ⟨rfl, zRu, A, S, h0⟩) (fun q1 => ⟨hf, fun q2 => absurd ⟨q1, Or.inl q2⟩ hno, fun q2 => ?_⟩)
    refine sp9_isFact a3 a5 hf ?_
    exact dec_tf (fun q3 => absurd ⟨q1, Or.inr q3⟩ hno) (fun _ => ⟨rfl, zRu, A, S, h0⟩)
  have ref : ∀ (T1 : TH) (Q : Int → TH → Prop), LandM T1 A → (0 ≤ p ∧ p < A 0 0) → (f = -1 ∨ (0 ≤ f ∧ f < A 1 0)) → b_X9_counted_24 p w f v Q T1 → wp_X9_counted p w f v T1 Q := by
    intro T1 Q m1 q1 q2 hb
    unfold wp_X9_counted
    refine sp9_isOne a3 m1 hp ?_
    refine dec_ft (fun z => absurd q1 z) (fun _ => ⟨hf, fun _ => hb, fun z => ?_⟩)
    refine sp9_isFact a3 m1 hf ?_
    exact dec_tf (fun _ => hb) (fun z2 => absurd (q2.resolve_left z) z2)
  have out : (0 ≤ p ∧ p < A 0 0) → (f = -1 ∨ (0 ≤ f ∧ f < A 1 0)) → ¬ ((-999 ≤ w ∧ w ≤ 999) ∧ (0 ≤ v ∧ v ≤ 1)) → wp_X9_counted p w f v T (fun r2 T2 => -1000000002 = r2 ∧ zR (-1000000002) ∧ Inv T2) := by
    intro q1 q2 hno
    refine ref T _ a5 q1 q2 ?_
    unfold b_X9_counted_24
    refine sp9_in hw (by unfold zR; omega) (by unfold zR; omega) ?_
    refine dec_ft (fun _ => ⟨rfl, zRo, A, S, h0⟩) (fun q3 => ?_)
    refine sp9_in hv z0 (by unfold zR; omega) ?_
    exact dec_tf (fun q4 => absurd ⟨q3, q4⟩ hno) (fun _ => ⟨rfl, zRo, A, S, h0⟩)
  unfold wp_X8_counted
  refine sp_hasPerson a3 a6 hp ?_
  refine dec_ft (fun q1 => unk (fun z => q1 z.1)) (fun q1 => ?_)
  have c11 := a6.2.2.2.2.2.2.2.2.1 p q1.1 q1.2
  refine sp_hasFactOrNone a3 a6 hf (fun q2 => ⟨fun _ => ?_, fun z => absurd z (by decide)⟩) (fun q2 => ⟨fun z => absurd z (by decide), fun _ => unk (fun z => q2 z.2)⟩)
  refine sp_canWeigh hw ?_
  refine dec_ft (fun q3 => out q1 q2 (fun z => q3 z.1)) (fun q3 => ⟨hv, fun q4 => out q1 q2 (fun z => by omega), fun q4 => ⟨hv, fun q5 => ?_, fun q5 => out q1 q2 (fun z => by omega)⟩⟩)
  have ref2 : ∀ (T1 : TH) (Q : Int → TH → Prop), LandM T1 A → ((¬ f = -1 → ∃ m9 : Nat, h_X9_counted_75 p w f v Q m9 (-1) 0 T1) ∧ (f = -1 → wp_X9_layWays p (-1) 0 T1 (fun T5 => wp_X9_waysTo w T5 (fun r7 T6 => Q r7 T6)))) → wp_X9_counted p w f v T1 Q := by
    intro T1 Q m1 hb
    refine ref T1 Q m1 q1 q2 ?_
    unfold b_X9_counted_24
    refine sp9_in hw (by unfold zR; omega) (by unfold zR; omega) ?_
    refine dec_ft (fun z => absurd q3 z) (fun _ => ?_)
    refine sp9_in hv z0 (by unfold zR; omega) ?_
    exact dec_tf (fun _ => ⟨hf, hb.1, hb.2⟩) (fun z => by omega)
  have inv2 : ∀ T1 T2 : TH, (∀ (o j : Nat) (i : Int), ¬ o = 10 → T1 o j i = T o j i) → (∀ (o j : Nat) (x : Int), ¬ (o = 13 ∧ (j = 35 ∨ j = 36)) → T2 o j x = T1 o j x) → Inv T2 := by
    intro T1 T2 f1 f2
    refine ⟨A, S, h0.fr (fun o j i hs => ?_)⟩
    have z1 : ¬ o = 10 := fun z => hs (by unfold scr; omega)
    have z2 : ¬ (o = 13 ∧ (j = 35 ∨ j = 36)) := fun z => hs (by unfold scr; omega)
    rw [f2 _ _ _ z2, f1 _ _ _ z1]
  refine ⟨hf, fun q6 => ?_, fun q6 => ?_⟩
  · have q7 := q2.resolve_left q6
    have e8 := (a6.2.2.2.2.2.2.2.1 f q7.1 q7.2).1
    have a6f := (a3.2.2.2.2.2.2.1 f q7.1 q7.2).1
    rw [e8]
    refine ⟨q7.1, by omega, by unfold zR; omega, hp, fun q8 => ⟨q1.1, by omega, ?_⟩, fun q8 => ?_⟩
    · obtain ⟨t1, t2⟩ := take_b (k := f) c11.1 q7.1 (by omega) (by decide)
      refine sp_wSpread h23 a3 (by omega) a6 (ms_up t1 (by decide)) (fun T7 w7 f7 => ?_)
      have m7 : LandM T7 A := a5.off (fun j i hj => f7 _ _ _ (by omega))
      have e7 : T7 0 1 0 = T 0 1 0 := f7 _ _ _ (by omega)
      have c7 : LandC T7 (T 0 1 0).toNat A := a6.off (fun j i => f7 _ _ _ (by omega))
      have cg := cwB_cg (A := A) (P := bt (zand (T (T 0 1 0).toNat 11 p) (zxor (zshl 1 f) (-1)))) (P' := wzP A p f) (fun g g0 g1 => by
        rw [t2 g g0, c11.2 g g0 (by omega)]
        unfold wzP
        have hg : g < A 1 0 := by omega
        by_cases x1 : A 6 g = p <;> by_cases x2 : g = f <;> simp [x1, x2, hg]) f w
      rw [e7]
      have fin : ∀ r : Int, r = (if v = 0 then lwF (cwB A (wzP A p f) f w) (A 0 0).toNat 0 else mxF (cwB A (wzP A p f) f w) (A 0 0).toNat) → wp_X9_counted p w f v T7 (fun r2 T2 => r = r2 ∧ zR r ∧ Inv T2) := by
        intro r hr
        refine ref2 T7 _ m7 ⟨fun _ => ?_, fun z => absurd z q6⟩
        refine sp9_cnt a3 m7 hp hw q7.1 q7.2 q8 (by omega) (fun T8 f8 => ⟨hr, ?_, inv2 T7 T8 f7 f8⟩)
        have r1 := lwF_R (cwB A (wzP A p f) f w) (A 0 0).toNat 0
        have r2 := mxF_R (cwB A (wzP A p f) f w) (A 0 0).toNat
        rw [hr]
        unfold zR
        split <;> omega
      refine ⟨hv, fun q9 => ?_, fun q9 => ?_⟩
      · refine sp_mostHeads a3 (by omega) c7 w7 q7.1 q7.2 q3.1 q3.2 ?_
        refine fin _ ?_
        rw [if_neg q9, cg]
      · refine sp_fewestHeads a3 (by omega) c7 w7 q7.1 q7.2 q3.1 q3.2 ?_
        refine fin _ ?_
        rw [if_pos q9, cg]
    · refine ref2 T _ a5 ⟨fun _ => ⟨1, ?_⟩, fun z => absurd z q6⟩
      rw [h_X9_counted_75, a5.1]
      refine ⟨z0, by unfold zR; omega, fun z => by omega, fun _ => ?_⟩
      refine sp9_personOf a3 a5 q7.1 q7.2 ?_
      exact ⟨by unfold zR; omega, hp, fun _ => ⟨rfl, by unfold zR; omega, A, S, h0⟩, fun z => absurd z q8⟩
  · refine ⟨q1.1, by omega, ?_⟩
    refine sp_wSpread h23 a3 (by omega) a6 (ms_up c11.1 (by decide)) (fun T7 w7 f7 => ?_)
    have m7 : LandM T7 A := a5.off (fun j i hj => f7 _ _ _ (by omega))
    have cg := wyS_cg (A := A) (P := bt (T (T 0 1 0).toNat 11 p)) (P' := wzP A p (-1)) (i := (A 1 0).toNat) w (fun g g0 g1 => by
      rw [c11.2 g g0 (by omega)]
      unfold wzP
      have hg : g < A 1 0 := by omega
      have hg2 : ¬ g = -1 := by omega
      by_cases x1 : A 6 g = p <;> simp [x1, hg, hg2])
    refine sp_countAt a3 (by omega) w7 (by omega) (by omega) ?_
    refine ref2 T7 _ m7 ⟨fun z => absurd q6 z, fun _ => ?_⟩
    refine sp9_layWays a3 m7 hp (by unfold zR; omega) (Int.le_refl 0) (by omega) (fun T8 t1 f8 => ?_)
    refine sp9_waysTo t1 (fun w hw => wz_out a3 (Int.le_refl 0) (by omega) (Nat.le_refl _) hw) hw ?_
    have dz : dzS A p (-1) 0 (A 1 0).toNat = 0 := by
      unfold dzS
      exact if_neg (by omega)
    have r := wyS_8 a3 (bt (T (T 0 1 0).toNat 11 p)) (i := (A 1 0).toNat) (Nat.le_refl _) w
    refine ⟨?_, by unfold zR; omega, inv2 T7 T8 f7 f8⟩
    rw [wz_eq (Int.le_refl 0) (by omega), dz, Int.sub_zero]
    exact cg
