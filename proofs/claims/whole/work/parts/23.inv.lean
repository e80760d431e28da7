/-! the invariant between class and reference -/
def TextR (T : TH) : Prop := T 1 1 0 = T 13 0 0 ∧ (0 ≤ T 13 0 0 ∧ T 13 0 0 ≤ 250) ∧ (∀ i, 0 ≤ i → i < T 13 0 0 → T 1 0 i = T 13 1 i ∧ 0 ≤ T 13 1 i ∧ T 13 1 i ≤ 255)
def FaultR (T : TH) : Prop := T 1 2 0 = T 13 6 0 ∧ -1 ≤ T 13 6 0 ∧ T 13 6 0 ≤ 250
def ScaleR (T : TH) (A : LA) : Prop := T 8 0 0 = T 13 31 0 ∧ (0 ≤ T 13 31 0 ∧ T 13 31 0 ≤ 15) ∧ (∀ k, 0 ≤ k → k < T 13 31 0 → T 8 1 k = T 13 32 (2 * k) ∧ T 8 2 k = T 13 32 (2 * k + 1) ∧ (0 ≤ T 13 32 (2 * k) ∧ T 13 32 (2 * k) < A 0 0) ∧ (-999 ≤ T 13 32 (2 * k + 1) ∧ T 13 32 (2 * k + 1) ≤ 999))
def ImgR (T : TH) (A : LA) : Prop := ms 2 (T 0 6 0) ∧ (∀ i, 0 ≤ i → i < 2 → T 13 30 i = zi (bt (T 0 6 0) i) ∧ (bt (T 0 6 0) i = true → ∃ S, HAok A S 90099 ∧ HeadM T 29 (58 * i) S ∧ HeadC T (6 + i.toNat) S))
def InvA (T : TH) (A : LA) (S : HA) : Prop := lOK T ∧ T 0 1 0 ≠ T 0 2 0 ∧ LAok A ∧ HAok A S 90099 ∧ LandM T A ∧ LandC T (T 0 1 0).toNat A ∧ HeadM T 26 0 S ∧ HeadC T 4 S ∧ TextR T ∧ FaultR T ∧ ScaleR T A ∧ ImgR T A
def Inv (T : TH) : Prop := ∃ A S, InvA T A S
/-- places that hold nothing that lasts -/
def scr (h o j : Nat) : Prop := o = 5 ∨ o = 9 ∨ o = 10 ∨ o = 11 ∨ o = 12 ∨ ((o = 2 ∨ o = 3) ∧ o ≠ h) ∨ (j = 3 ∧ (o = 4 ∨ o = 6 ∨ o = 7)) ∨ (o = 1 ∧ (j = 3 ∨ j = 4 ∨ j = 5)) ∨ (o = 13 ∧ (j = 2 ∨ j = 3 ∨ j = 4 ∨ j = 5 ∨ (7 ≤ j ∧ j ≤ 16) ∨ j = 27 ∨ j = 28 ∨ (33 ≤ j ∧ j ≤ 37)))
def Fr (h : Nat) (T T' : TH) : Prop := ∀ o j i, ¬ scr h o j → T' o j i = T o j i
theorem Fr.rf {h : Nat} {T : TH} : Fr h T T := fun _ _ _ _ => rfl
theorem Fr.tr {h : Nat} {T T1 T2 : TH} (a : Fr h T T1) (b : Fr h T1 T2) : Fr h T T2 := fun o j i hs => (b o j i hs).trans (a o j i hs)
theorem Fr.up {h : Nat} {T T1 : TH} (a : Fr h T T1) {o j : Nat} {i v : Int} (hs : scr h o j) : Fr h T (up T1 o j i v) := fun o' j' i' hn => by
  rw [up_ne (fun z => hn (by rw [z.1, z.2.1]; exact hs))]
  exact a o' j' i' hn
theorem LandM.fr {h : Nat} {T T' : TH} {A : LA} (f : Fr h T T') (H : LandM T A) : LandM T' A := by
  have e : ∀ j, (17 ≤ j ∧ j ≤ 25) → ∀ i, T' 13 j i = T 13 j i := fun j hj i => f 13 j i (by unfold scr; omega)
  unfold LandM
  rw [e 17 (by omega), e 18 (by omega), e 20 (by omega), e 23 (by omega), e 25 (by omega), e 22 (by omega)]
  obtain ⟨h1, h2, h3, h4, h5, h6, h7, h8, h9⟩ := H
  refine ⟨h1, h2, h3, h4, h5, h6, fun x x0 x1 => ?_, fun x x0 x1 => ?_, fun x x0 x1 => ?_⟩
  · rw [e 19 (by omega), e 19 (by omega), e 19 (by omega)]
    exact h7 x x0 x1
  · rw [e 21 (by omega), e 21 (by omega)]
    exact h8 x x0 x1
  · rw [e 24 (by omega)]
    exact h9 x x0 x1
theorem LandC.eq {T T' : TH} {o o' : Nat} {A : LA} (e : ∀ j i, T' o' j i = T o j i) (H : LandC T o A) : LandC T' o' A := by
  unfold LandC
  simp only [e]
  exact H
theorem HeadM.eq {T T' : TH} {j j' : Nat} {off off' : Int} {S : HA} (e : ∀ i, 0 ≤ i → i < 58 → T' 13 j' (off' + i) = T 13 j (off + i)) (H : HeadM T j off S) : HeadM T' j' off' S :=
  ⟨fun p f p0 p1 f0 f1 => (e _ (by omega) (by omega)).trans (H.1 p f p0 p1 f0 f1), (e 56 (by decide) (by decide)).trans H.2.1, (e 57 (by decide) (by decide)).trans H.2.2⟩
theorem HeadC.eq {T T' : TH} {o o' : Nat} {S : HA} (e0 : T' o' 0 0 = T o 0 0) (e1 : T' o' 1 0 = T o 1 0) (e2 : ∀ i, 0 ≤ i → i < 8 → T' o' 2 i = T o 2 i) (e4 : ∀ i, 0 ≤ i → i < 56 → T' o' 4 i = T o 4 i) (H : HeadC T o S) : HeadC T' o' S := by
  obtain ⟨h1, h2, h3, h4⟩ := H
  refine ⟨e0.trans h1, e1.trans h2, fun f f0 f1 => ?_, fun p f p0 p1 f0 f1 hk => (e4 _ (by omega) (by omega)).trans (h4 p f p0 p1 f0 f1 hk)⟩
  rw [e2 f f0 f1]
  exact h3 f f0 f1
theorem TextR.eq {T T' : TH} (e0 : T' 1 1 0 = T 1 1 0) (e1 : T' 13 0 0 = T 13 0 0) (e2 : ∀ i, T' 1 0 i = T 1 0 i) (e3 : ∀ i, T' 13 1 i = T 13 1 i) (H : TextR T) : TextR T' := by
  unfold TextR
  simp only [e0, e1, e2, e3]
  exact H
theorem ScaleR.eq {T T' : TH} {A : LA} (e0 : T' 8 0 0 = T 8 0 0) (e1 : T' 13 31 0 = T 13 31 0) (e2 : ∀ i, T' 8 1 i = T 8 1 i) (e3 : ∀ i, T' 8 2 i = T 8 2 i) (e4 : ∀ i, T' 13 32 i = T 13 32 i) (H : ScaleR T A) : ScaleR T' A := by
  unfold ScaleR
  simp only [e0, e1, e2, e3, e4]
  exact H
theorem ImgR.eq {T T' : TH} {A : LA} (e0 : T' 0 6 0 = T 0 6 0) (e1 : ∀ i, T' 13 30 i = T 13 30 i) (e2 : ∀ i, T' 13 29 i = T 13 29 i) (e3 : ∀ o j i, (o = 6 ∨ o = 7) → j ≠ 3 → T' o j i = T o j i) (H : ImgR T A) : ImgR T' A := by
  unfold ImgR
  rw [e0]
  refine ⟨H.1, fun i i0 i1 => ?_⟩
  obtain ⟨h1, h2⟩ := H.2 i i0 i1
  rw [e1]
  refine ⟨h1, fun hb => ?_⟩
  obtain ⟨S, s1, s2, s3⟩ := h2 hb
  have ho : 6 + i.toNat = 6 ∨ 6 + i.toNat = 7 := by omega
  exact ⟨S, s1, s2.eq (fun i _ _ => e2 _), s3.eq (e3 _ _ _ ho (by decide)) (e3 _ _ _ ho (by decide)) (fun i _ _ => e3 _ _ _ ho (by decide)) (fun i _ _ => e3 _ _ _ ho (by decide))⟩
theorem lOK_23 {T : TH} (h : lOK T) : (T 0 1 0).toNat = 2 ∨ (T 0 1 0).toNat = 3 := by
  rcases h.1 with e | e <;> rw [e] <;> decide
theorem InvA.fr {T T' : TH} {A : LA} {S : HA} (H : InvA T A S) (f : Fr (T 0 1 0).toNat T T') : InvA T' A S := by
  obtain ⟨a1, a2, a3, a4, a5, a6, a7, a8, a9, a10, a11, a12⟩ := H
  have h23 := lOK_23 a1
  have e01 : T' 0 1 0 = T 0 1 0 := f 0 1 0 (by unfold scr; omega)
  have e02 : T' 0 2 0 = T 0 2 0 := f 0 2 0 (by unfold scr; omega)
  refine ⟨by unfold lOK; rw [e01, e02]; exact a1, by rw [e01, e02]; exact a2, a3, a4, a5.fr f, ?_, a7.eq (fun i _ _ => f 13 26 _ (by unfold scr; omega)), a8.eq (f _ _ _ (by unfold scr; omega)) (f _ _ _ (by unfold scr; omega)) (fun i _ _ => f _ _ _ (by unfold scr; omega)) (fun i _ _ => f _ _ _ (by unfold scr; omega)), a9.eq (f _ _ _ (by unfold scr; omega)) (f _ _ _ (by unfold scr; omega)) (fun i => f _ _ _ (by unfold scr; omega)) (fun i => f _ _ _ (by unfold scr; omega)), ?_, a11.eq (f _ _ _ (by unfold scr; omega)) (f _ _ _ (by unfold scr; omega)) (fun i => f _ _ _ (by unfold scr; omega)) (fun i => f _ _ _ (by unfold scr; omega)) (fun i => f _ _ _ (by unfold scr; omega)), a12.eq (f _ _ _ (by unfold scr; omega)) (fun i => f _ _ _ (by unfold scr; omega)) (fun i => f _ _ _ (by unfold scr; omega)) (fun o j i ho hj => f _ _ _ (by unfold scr; omega))⟩
  · rw [e01]
    exact a6.eq (fun j i => f _ _ _ (by unfold scr; omega))
  · unfold FaultR
    rw [f 1 2 0 (by unfold scr; omega), f 13 6 0 (by unfold scr; omega)]
    exact a10
/-! calls that only look -/
theorem zRu : zR (-1000000001) := by unfold zR; omega
theorem zRo : zR (-1000000002) := by unfold zR; omega
theorem zRn : zR (-1000000003) := by unfold zR; omega
theorem zRf : zR (-1000000004) := by unfold zR; omega
theorem st_fault {T : TH} (H : Inv T) : wp_X8_fault T (fun r1 T1 => wp_X9_fault T1 (fun r2 T2 => r1 = r2 ∧ zR r1 ∧ Inv T2)) := by
  obtain ⟨A, S, h⟩ := H
  have h0 := h
  obtain ⟨a1, a2, a3, a4, a5, a6, a7, a8, a9, a10, a11, a12⟩ := h
  obtain ⟨f1, f2, f3⟩ := a10
  exact ⟨f1, by unfold zR; omega, A, S, h0⟩
theorem st_weight {T : TH} (H : Inv T) {p : Int} (hp : zR p) : wp_X8_weight p T (fun r1 T1 => wp_X9_weight p T1 (fun r2 T2 => r1 = r2 ∧ zR r1 ∧ Inv T2)) := by
  obtain ⟨A, S, h⟩ := H
  have h0 := h
  obtain ⟨a1, a2, a3, a4, a5, a6, a7, a8, a9, a10, a11, a12⟩ := h
  unfold wp_X8_weight
  refine sp_hasPerson a3 a6 hp ?_
  refine dec_ft (fun hn => ?_) (fun hy => ?_)
  · unfold wp_X9_weight
    refine sp9_isOne a3 a5 hp ?_
    exact dec_ft (fun _ => ⟨rfl, zRu, A, S, h0⟩) (fun q => absurd q hn)
  · refine sp_load a3 a6 a4 a8 hy.1 hy.2 ?_
    unfold wp_X9_weight
    refine sp9_isOne a3 a5 hp ?_
    refine dec_ft (fun q => absurd hy q) (fun _ => ?_)
    refine sp9_weightOf a3 a5 (by decide) a4 a7 hp ?_
    have := wtS_R a3 S p
    exact ⟨rfl, by unfold zR; omega, A, S, h0⟩
theorem st_bridge {T : TH} (H : Inv T) {b : Int} (hb : zR b) : wp_X8_bridge b T (fun r1 T1 => wp_X9_bridge b T1 (fun r2 T2 => r1 = r2 ∧ zR r1 ∧ Inv T2)) := by
  obtain ⟨A, S, h⟩ := H
  have h0 := h
  obtain ⟨a1, a2, a3, a4, a5, a6, a7, a8, a9, a10, a11, a12⟩ := h
  have b4 := a3.2.2.2.1
  unfold wp_X8_bridge
  refine sp_hasBridge a3 a6 hb ?_
  refine dec_ft (fun hn => ?_) (fun hy => ?_)
  · unfold wp_X9_bridge
    refine sp9_isBridge a3 a5 hb ?_
    exact dec_ft (fun _ => ⟨rfl, zRu, A, S, h0⟩) (fun q => absurd q hn)
  · refine ⟨hy.1, by omega, ?_⟩
    unfold wp_X9_bridge
    refine sp9_isBridge a3 a5 hb ?_
    refine dec_ft (fun q => absurd hy q) (fun _ => ?_)
    refine ⟨hy.1, by omega, ?_⟩
    rw [a6.2.2.2.2.2.2.2.2.2.2.2 b hy.1 hy.2, a5.2.2.2.2.2.2.2.2 b hy.1 hy.2]
    have := a3.2.2.2.2.2.2.2.2 b hy.1 hy.2
    exact ⟨rfl, by unfold zR; omega, A, S, h0⟩
theorem st_since {T : TH} (H : Inv T) {p f : Int} (hp : zR p) (hf : zR f) : wp_X8_since p f T (fun r1 T1 => wp_X9_since p f T1 (fun r2 T2 => r1 = r2 ∧ zR r1 ∧ Inv T2)) := by
  obtain ⟨A, S, h⟩ := H
  have h0 := h
  obtain ⟨a1, a2, a3, a4, a5, a6, a7, a8, a9, a10, a11, a12⟩ := h
  have n7 := a3.1
  have n8 := a3.2.1
  have ref : ∀ r : Int, ((0 ≤ p ∧ p < A 0 0) ∧ (0 ≤ f ∧ f < A 1 0) → r = S 0 p f) → (¬ ((0 ≤ p ∧ p < A 0 0) ∧ (0 ≤ f ∧ f < A 1 0)) → r = -1000000001) → wp_X9_since p f T (fun r2 T2 => r = r2 ∧ zR r ∧ Inv T2) := by
    intro r h1 h2
    unfold wp_X9_since
    refine sp9_isOne a3 a5 hp ?_
    refine dec_ft (fun q => ?_) (fun q => ?_)
    · have := h2 (fun z => q z.1)
      subst this
      exact ⟨rfl, zRu, A, S, h0⟩
    · refine sp9_isFact a3 a5 hf ?_
      refine dec_ft (fun q2 => ?_) (fun q2 => ?_)
      · have := h2 (fun z => q2 z.2)
        subst this
        exact ⟨rfl, zRu, A, S, h0⟩
      · have := h1 ⟨q, q2⟩
        subst this
        refine ⟨by omega, by omega, ?_⟩
        rw [a7.at0 q.1 (by omega) q2.1 (by omega)]
        have r1 := a4.2.2 p f q.1 (by omega) q2.1 (by omega)
        have r2 := a4.1
        exact ⟨rfl, by unfold zR; omega, A, S, h0⟩
  unfold wp_X8_since
  refine sp_hasPerson a3 a6 hp ?_
  refine dec_ft (fun hn => ref _ (fun z => absurd z.1 hn) (fun _ => rfl)) (fun hy => ?_)
  refine sp_hasFact a3 a6 hf ?_
  refine dec_tf (fun hy2 => ?_) (fun hn => ref _ (fun z => absurd z.2 hn) (fun _ => rfl))
  refine sp_knows a8 hy.1 (by omega) hy2.1 (by omega) ?_
  refine dec_ft (fun hn => ref _ (fun _ => ?_) (fun z => absurd ⟨hy, hy2⟩ z)) (fun hk => ?_)
  · have : S 0 p f = -1 := by simpa using hn
    rw [this]
  · refine sp_heardAt a8 hy.1 (by omega) hy2.1 (by omega) hk ?_
    exact ref _ (fun _ => rfl) (fun z => absurd ⟨hy, hy2⟩ z)
