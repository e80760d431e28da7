/-! heads that change -/
def setS (S : HA) (p f v : Int) : HA := fun k a b => if k = 0 ∧ a = p ∧ b = f then v else S k a b
theorem setS_hit (S : HA) (p f v : Int) : setS S p f v 0 p f = v := by simp [setS]
theorem setS_miss {S : HA} {p f v a b : Int} (h : ¬ (a = p ∧ b = f)) : setS S p f v 0 a b = S 0 a b := by
  unfold setS
  rw [if_neg (fun z => h z.2)]
theorem setS_1 (S : HA) (p f v : Int) : setS S p f v 1 0 0 = S 1 0 0 := by simp [setS]
theorem setS_2 (S : HA) (p f v : Int) : setS S p f v 2 0 0 = S 2 0 0 := by simp [setS]
theorem HAok.set {A : LA} {S : HA} {M p f v : Int} (h : HAok A S M) (hv : v = -1 ∨ (p < A 0 0 ∧ f < A 1 0 ∧ 0 ≤ v ∧ v ≤ S 1 0 0)) : HAok A (setS S p f v) M := by
  obtain ⟨h1, h2, h3⟩ := h
  refine ⟨by rw [setS_1]; exact h1, by rw [setS_2]; exact h2, fun a b a0 a1 b0 b1 => ?_⟩
  rw [setS_1]
  by_cases e : a = p ∧ b = f
  · obtain ⟨rfl, rfl⟩ := e
    rw [setS_hit]
    exact hv
  · rw [setS_miss e]
    exact h3 a b a0 a1 b0 b1
theorem HeadM.put {T : TH} {j : Nat} {off : Int} {S : HA} (h : HeadM T j off S) {p f v : Int} (p0 : 0 ≤ p) (p1 : p < 7) (f0 : 0 ≤ f) (f1 : f < 8) : HeadM (up T 13 j (off + (8 * p + f)) v) j off (setS S p f v) := by
  obtain ⟨h1, h2, h3⟩ := h
  refine ⟨fun a b a0 a1 b0 b1 => ?_, ?_, ?_⟩
  · by_cases e : a = p ∧ b = f
    · obtain ⟨rfl, rfl⟩ := e
      rw [up_eq, setS_hit]
    · rw [up_ne (by omega), setS_miss e]
      exact h1 a b a0 a1 b0 b1
  · rw [up_ne (by omega), setS_1]
    exact h2
  · rw [up_ne (by omega), setS_2]
    exact h3
theorem HeadM.put0 {T : TH} {j : Nat} {S : HA} (h : HeadM T j 0 S) {p f v : Int} (p0 : 0 ≤ p) (p1 : p < 7) (f0 : 0 ≤ f) (f1 : f < 8) : HeadM (up T 13 j (8 * p + f) v) j 0 (setS S p f v) := by
  have := h.put (v := v) p0 p1 f0 f1
  rwa [Int.zero_add] at this
theorem sp_learn {T : TH} {S : HA} {o : Nat} (h : HeadC T o S) (hh : 0 ≤ S 1 0 0) {p f : Int} {Q : TH → Prop} (p0 : 0 ≤ p) (p1 : p < 7) (f0 : 0 ≤ f) (f1 : f < 8) (hq : ∀ T2, HeadC T2 o (setS S p f (S 1 0 0)) → (∀ o' j i, ¬ (o' = o ∧ (j = 2 ∨ j = 4)) → T2 o' j i = T o' j i) → Q T2) : wp_X2_learn o p f T Q := by
  obtain ⟨h1, h2, h3, h4⟩ := h
  unfold wp_X2_learn
  refine ⟨f0, f1, f0, f1, ?_⟩
  rintro _ rfl
  refine ⟨by omega, by omega, ?_⟩
  rintro _ rfl
  refine hq _ ⟨?_, ?_, fun b b0 b1 => ?_, fun a b a0 a1 b0 b1 hk => ?_⟩ (fun o' j i hn => ?_)
  · rw [up_ne (by omega), up_ne (by omega), setS_1]
    exact h1
  · rw [up_ne (by omega), up_ne (by omega), setS_2]
    exact h2
  · rw [up_ne (by omega)]
    by_cases e : b = f
    · subst e
      rw [up_eq]
      obtain ⟨c1, c2⟩ := h3 b f0 f1
      obtain ⟨t1, t2⟩ := put_b c1 p0 (by omega : p < (7 : Nat)) (by decide)
      refine ⟨t1, fun a a0 a1 => ?_⟩
      rw [t2 a a0, c2 a a0 a1]
      by_cases e2 : a = p
      · subst e2
        rw [setS_hit]
        simp
        omega
      · rw [setS_miss (fun z => e2 z.1)]
        simp [e2]
    · rw [up_ne (by omega)]
      obtain ⟨c1, c2⟩ := h3 b b0 b1
      refine ⟨c1, fun a a0 a1 => ?_⟩
      rw [c2 a a0 a1, setS_miss (fun z => e z.2)]
  · by_cases e : a = p ∧ b = f
    · obtain ⟨rfl, rfl⟩ := e
      rw [up_eq, up_ne (by omega), setS_hit]
      exact h1
    · rw [setS_miss e] at hk ⊢
      rw [up_ne (by omega), up_ne (by omega)]
      exact h4 a b a0 a1 b0 b1 hk
  · rw [up_ne (fun z => hn ⟨z.1, Or.inr z.2.1⟩), up_ne (fun z => hn ⟨z.1, Or.inl z.2.1⟩)]
theorem sp_lose {T : TH} {S : HA} {o : Nat} (h : HeadC T o S) {p f : Int} {Q : TH → Prop} (p0 : 0 ≤ p) (p1 : p < 7) (f0 : 0 ≤ f) (f1 : f < 8) (hq : ∀ T2, HeadC T2 o (setS S p f (-1)) → (∀ o' j i, ¬ (o' = o ∧ j = 2) → T2 o' j i = T o' j i) → Q T2) : wp_X2_lose o p f T Q := by
  obtain ⟨h1, h2, h3, h4⟩ := h
  unfold wp_X2_lose
  refine ⟨f0, f1, f0, f1, ?_⟩
  rintro _ rfl
  refine hq _ ⟨?_, ?_, fun b b0 b1 => ?_, fun a b a0 a1 b0 b1 hk => ?_⟩ (fun o' j i hn => ?_)
  · rw [up_ne (by omega), setS_1]
    exact h1
  · rw [up_ne (by omega), setS_2]
    exact h2
  · by_cases e : b = f
    · subst e
      rw [up_eq]
      obtain ⟨c1, c2⟩ := h3 b f0 f1
      obtain ⟨t1, t2⟩ := take_b c1 p0 (by omega : p < 31) (by decide)
      refine ⟨t1, fun a a0 a1 => ?_⟩
      rw [t2 a a0, c2 a a0 a1]
      by_cases e2 : a = p
      · subst e2
        rw [setS_hit]
        simp
      · rw [setS_miss (fun z => e2 z.1)]
        simp [e2]
    · rw [up_ne (by omega)]
      obtain ⟨c1, c2⟩ := h3 b b0 b1
      refine ⟨c1, fun a a0 a1 => ?_⟩
      rw [c2 a a0 a1, setS_miss (fun z => e z.2)]
  · by_cases e : a = p ∧ b = f
    · obtain ⟨rfl, rfl⟩ := e
      rw [setS_hit] at hk
      exact absurd rfl hk
    · rw [setS_miss e] at hk ⊢
      rw [up_ne (by omega)]
      exact h4 a b a0 a1 b0 b1 hk
  · rw [up_ne (fun z => hn ⟨z.1, z.2.1⟩)]
/-- only the heads that are, and what doesn't last, have changed -/
def Fr2 (h : Nat) (T T' : TH) : Prop := ∀ o j i, ¬ scr h o j → ¬ o = 4 → ¬ (o = 13 ∧ j = 26) → T' o j i = T o j i
theorem InvA.heads {T T' : TH} {A : LA} {S S' : HA} (H : InvA T A S) (f : Fr2 (T 0 1 0).toNat T T') (hS : HAok A S' 90099) (hM : HeadM T' 26 0 S') (hC : HeadC T' 4 S') : InvA T' A S' := by
  obtain ⟨a1, a2, a3, a4, a5, a6, a7, a8, a9, a10, a11, a12⟩ := H
  have h23 := lOK_23 a1
  have e01 : T' 0 1 0 = T 0 1 0 := f 0 1 0 (by unfold scr; omega) (by omega) (by omega)
  have e02 : T' 0 2 0 = T 0 2 0 := f 0 2 0 (by unfold scr; omega) (by omega) (by omega)
  have e : ∀ o j i, ¬ scr (T 0 1 0).toNat o j → ¬ o = 4 → ¬ (o = 13 ∧ j = 26) → T' o j i = T o j i := f
  have em : ∀ j, (17 ≤ j ∧ j ≤ 25) → ∀ i, T' 13 j i = T 13 j i := fun j hj i => f 13 j i (by unfold scr; omega) (by omega) (by omega)
  refine ⟨by unfold lOK; rw [e01, e02]; exact a1, by rw [e01, e02]; exact a2, a3, hS, ?_, ?_, hM, hC, a9.eq (f _ _ _ (by unfold scr; omega) (by omega) (by omega)) (f _ _ _ (by unfold scr; omega) (by omega) (by omega)) (fun i => f _ _ _ (by unfold scr; omega) (by omega) (by omega)) (fun i => f _ _ _ (by unfold scr; omega) (by omega) (by omega)), ?_, a11.eq (f _ _ _ (by unfold scr; omega) (by omega) (by omega)) (f _ _ _ (by unfold scr; omega) (by omega) (by omega)) (fun i => f _ _ _ (by unfold scr; omega) (by omega) (by omega)) (fun i => f _ _ _ (by unfold scr; omega) (by omega) (by omega)) (fun i => f _ _ _ (by unfold scr; omega) (by omega) (by omega)), a12.eq (f _ _ _ (by unfold scr; omega) (by omega) (by omega)) (fun i => f _ _ _ (by unfold scr; omega) (by omega) (by omega)) (fun i => f _ _ _ (by unfold scr; omega) (by omega) (by omega)) (fun o j i ho hj => f _ _ _ (by unfold scr; omega) (by omega) (by omega))⟩
  · unfold LandM
    rw [em 17 (by omega), em 18 (by omega), em 20 (by omega), em 23 (by omega), em 25 (by omega), em 22 (by omega)]
    obtain ⟨h1, h2, h3, h4, h5, h6, h7, h8, h9⟩ := a5
    refine ⟨h1, h2, h3, h4, h5, h6, fun x x0 x1 => ?_, fun x x0 x1 => ?_, fun x x0 x1 => ?_⟩
    · rw [em 19 (by omega), em 19 (by omega), em 19 (by omega)]
      exact h7 x x0 x1
    · rw [em 21 (by omega), em 21 (by omega)]
      exact h8 x x0 x1
    · rw [em 24 (by omega)]
      exact h9 x x0 x1
  · rw [e01]
    exact a6.eq (fun j i => f _ _ _ (by unfold scr; omega) (by omega) (by omega))
  · unfold FaultR
    rw [f 1 2 0 (by unfold scr; omega) (by omega) (by omega), f 13 6 0 (by unfold scr; omega) (by omega) (by omega)]
    exact a10
/-- land and heads as they are in any state that differs in heads alone -/
theorem LandC.off {T T' : TH} {o : Nat} {A : LA} (H : LandC T o A) (e : ∀ j i, T' o j i = T o j i) : LandC T' o A := H.eq e
theorem LandM.off {T T' : TH} {A : LA} (H : LandM T A) (e : ∀ j i, (17 ≤ j ∧ j ≤ 25) → T' 13 j i = T 13 j i) : LandM T' A := by
  have em : ∀ j, (17 ≤ j ∧ j ≤ 25) → ∀ i, T' 13 j i = T 13 j i := fun j hj i => e j i hj
  unfold LandM
  rw [em 17 (by omega), em 18 (by omega), em 20 (by omega), em 23 (by omega), em 25 (by omega), em 22 (by omega)]
  obtain ⟨h1, h2, h3, h4, h5, h6, h7, h8, h9⟩ := H
  refine ⟨h1, h2, h3, h4, h5, h6, fun x x0 x1 => ?_, fun x x0 x1 => ?_, fun x x0 x1 => ?_⟩
  · rw [em 19 (by omega), em 19 (by omega), em 19 (by omega)]
    exact h7 x x0 x1
  · rw [em 21 (by omega), em 21 (by omega)]
    exact h8 x x0 x1
  · rw [em 24 (by omega)]
    exact h9 x x0 x1
theorem st_tell {T : TH} (H : Inv T) {p f : Int} (hp : zR p) (hf : zR f) : wp_X8_tell p f T (fun r1 T1 => wp_X9_tell p f T1 (fun r2 T2 => r1 = r2 ∧ zR r1 ∧ Inv T2)) := by
  obtain ⟨A, S, h⟩ := H
  have h0 := h
  obtain ⟨a1, a2, a3, a4, a5, a6, a7, a8, a9, a10, a11, a12⟩ := h
  have h23 := lOK_23 a1
  have n7 := a3.1
  have n8 := a3.2.1
  unfold wp_X8_tell
  refine sp_hasPerson a3 a6 hp ?_
  refine dec_ft (fun hn => ?_) (fun hy => ?_)
  · unfold wp_X9_tell
    refine sp9_isOne a3 a5 hp ?_
    exact dec_ft (fun _ => ⟨rfl, zRu, A, S, h0⟩) (fun q => absurd q hn)
  refine sp_hasFact a3 a6 hf ?_
  refine dec_tf (fun hy2 => ?_) (fun hn => ?_)
  · refine sp_knows a8 hy.1 (by omega) hy2.1 (by omega) ?_
    refine dec_ft (fun hn => ?_) (fun hk => ?_)
    · refine sp_learn a8 a4.1.1 hy.1 (by omega) hy2.1 (by omega) (fun T2 c1 c2 => ?_)
      have hS' : HAok A (setS S p f (S 1 0 0)) 90099 := a4.set (Or.inr ⟨hy.2, hy2.2, a4.1.1, Int.le_refl _⟩)
      have e01 : T2 0 1 0 = T 0 1 0 := c2 0 1 0 (by omega)
      have l2 : LandC T2 (T2 0 1 0).toNat A := by
        rw [e01]
        exact a6.off (fun j i => c2 _ _ _ (by omega))
      refine sp_headsOf a3 l2 hS' c1 hy2.1 hy2.2 ?_
      have m2 : LandM T2 A := a5.off (fun j i _ => c2 _ _ _ (by omega))
      have k2 : HeadM T2 26 0 S := a7.eq (fun i _ _ => c2 _ _ _ (by omega))
      unfold wp_X9_tell
      refine sp9_isOne a3 m2 hp ?_
      refine dec_ft (fun q => absurd hy q) (fun _ => ?_)
      refine sp9_isFact a3 m2 hf ?_
      refine dec_tf (fun _ => ?_) (fun q => absurd hy2 q)
      refine sp9_knows (by decide) a4 k2 hy.1 (by omega) hy2.1 (by omega) ?_
      refine dec_ft (fun _ => ?_) (fun q => absurd q hn)
      refine ⟨by omega, by omega, ?_⟩
      rintro _ rfl
      rw [k2.h0]
      have m3 : LandM (up T2 13 26 (8 * p + f) (S 1 0 0)) A := m2.off (fun j i hj => up_ne (by omega))
      have k3 := k2.put0 (v := S 1 0 0) hy.1 (by omega : p < 7) hy2.1 (by omega : f < 8)
      refine sp9_headsOf a3 m3 (by decide) hS' k3 hy2.1 hy2.2 ?_
      have := hdS_R a3 (setS S p f (S 1 0 0)) f
      refine ⟨rfl, by unfold zR; omega, A, _, h0.heads (fun o j i s1 s2 s3 => ?_) hS' k3 (c1.eq (up_ne (by omega)) (up_ne (by omega)) (fun _ _ _ => up_ne (by omega)) (fun _ _ _ => up_ne (by omega)))⟩
      rw [up_ne (by omega)]
      exact c2 _ _ _ (by omega)
    · unfold wp_X9_tell
      refine sp9_isOne a3 a5 hp ?_
      refine dec_ft (fun q => absurd hy q) (fun _ => ?_)
      refine sp9_isFact a3 a5 hf ?_
      refine dec_tf (fun _ => ?_) (fun q => absurd hy2 q)
      refine sp9_knows (by decide) a4 a7 hy.1 (by omega) hy2.1 (by omega) ?_
      exact dec_ft (fun q => absurd hk q) (fun _ => ⟨rfl, zRn, A, S, h0⟩)
  · unfold wp_X9_tell
    refine sp9_isOne a3 a5 hp ?_
    refine dec_ft (fun q => absurd hy q) (fun _ => ?_)
    refine sp9_isFact a3 a5 hf ?_
    exact dec_tf (fun q => absurd q hn) (fun _ => ⟨rfl, zRu, A, S, h0⟩)
theorem st_forget {T : TH} (H : Inv T) {p f : Int} (hp : zR p) (hf : zR f) : wp_X8_forget p f T (fun r1 T1 => wp_X9_forget p f T1 (fun r2 T2 => r1 = r2 ∧ zR r1 ∧ Inv T2)) := by
  obtain ⟨A, S, h⟩ := H
  have h0 := h
  obtain ⟨a1, a2, a3, a4, a5, a6, a7, a8, a9, a10, a11, a12⟩ := h
  have h23 := lOK_23 a1
  have n7 := a3.1
  have n8 := a3.2.1
  unfold wp_X8_forget
  refine sp_hasPerson a3 a6 hp ?_
  refine dec_ft (fun hn => ?_) (fun hy => ?_)
  · unfold wp_X9_forget
    refine sp9_isOne a3 a5 hp ?_
    exact dec_ft (fun _ => ⟨rfl, zRu, A, S, h0⟩) (fun q => absurd q hn)
  refine sp_hasFact a3 a6 hf ?_
  refine dec_tf (fun hy2 => ?_) (fun hn => ?_)
  · refine sp_knows a8 hy.1 (by omega) hy2.1 (by omega) ?_
    refine dec_tf (fun hk => ?_) (fun hn => ?_)
    · refine sp_lose a8 hy.1 (by omega) hy2.1 (by omega) (fun T2 c1 c2 => ?_)
      have hS' : HAok A (setS S p f (-1)) 90099 := a4.set (Or.inl rfl)
      have e01 : T2 0 1 0 = T 0 1 0 := c2 0 1 0 (by omega)
      have l2 : LandC T2 (T2 0 1 0).toNat A := by
        rw [e01]
        exact a6.off (fun j i => c2 _ _ _ (by omega))
      refine sp_headsOf a3 l2 hS' c1 hy2.1 hy2.2 ?_
      have m2 : LandM T2 A := a5.off (fun j i _ => c2 _ _ _ (by omega))
      have k2 : HeadM T2 26 0 S := a7.eq (fun i _ _ => c2 _ _ _ (by omega))
      unfold wp_X9_forget
      refine sp9_isOne a3 m2 hp ?_
      refine dec_ft (fun q => absurd hy q) (fun _ => ?_)
      refine sp9_isFact a3 m2 hf ?_
      refine dec_tf (fun _ => ?_) (fun q => absurd hy2 q)
      refine sp9_knows (by decide) a4 k2 hy.1 (by omega) hy2.1 (by omega) ?_
      refine dec_tf (fun _ => ?_) (fun q => absurd hk q)
      refine ⟨by omega, by omega, ?_⟩
      rintro _ rfl
      have m3 : LandM (up T2 13 26 (8 * p + f) (-1)) A := m2.off (fun j i hj => up_ne (by omega))
      have k3 := k2.put0 (v := -1) hy.1 (by omega : p < 7) hy2.1 (by omega : f < 8)
      refine sp9_headsOf a3 m3 (by decide) hS' k3 hy2.1 hy2.2 ?_
      have := hdS_R a3 (setS S p f (-1)) f
      refine ⟨rfl, by unfold zR; omega, A, _, h0.heads (fun o j i s1 s2 s3 => ?_) hS' k3 (c1.eq (up_ne (by omega)) (up_ne (by omega)) (fun _ _ _ => up_ne (by omega)) (fun _ _ _ => up_ne (by omega)))⟩
      rw [up_ne (by omega)]
      exact c2 _ _ _ (by omega)
    · unfold wp_X9_forget
      refine sp9_isOne a3 a5 hp ?_
      refine dec_ft (fun q => absurd hy q) (fun _ => ?_)
      refine sp9_isFact a3 a5 hf ?_
      refine dec_tf (fun _ => ?_) (fun q => absurd hy2 q)
      refine sp9_knows (by decide) a4 a7 hy.1 (by omega) hy2.1 (by omega) ?_
      exact dec_tf (fun q => absurd q hn) (fun _ => ⟨rfl, zRn, A, S, h0⟩)
  · unfold wp_X9_forget
    refine sp9_isOne a3 a5 hp ?_
    refine dec_ft (fun q => absurd hy q) (fun _ => ?_)
    refine sp9_isFact a3 a5 hf ?_
    exact dec_tf (fun q => absurd q hn) (fun _ => ⟨rfl, zRu, A, S, h0⟩)
