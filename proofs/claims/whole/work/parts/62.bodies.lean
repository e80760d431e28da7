/-! a clause: the class's land behind it -/
theorem LdC_j {T : TH} {o : Nat} {A : LA} {j : Nat} {v : Int} (hj : j = 0 ∨ j = 4 ∨ j = 5) (H : LdC T o A) : LdC (up T o j 0 v) o (setA A j 0 v) := by
  have u : ∀ (j' : Nat) (i : Int), j' ≠ j → up T o j 0 v o j' i = T o j' i := fun j' i h => up_ne (fun z => h z.2.1)
  have s : ∀ (j' : Nat) (i : Int), j' ≠ j → setA A j 0 v j' i = A j' i := fun j' i h => setA_ne (fun z => h z.1)
  have same : ∀ j' : Nat, T o j' 0 = A j' 0 → up T o j 0 v o j' 0 = setA A j 0 v j' 0 := fun j' h => by
    by_cases e : j' = j
    · subst e
      rw [up_eq, setA_hit]
    · rw [u j' 0 e, s j' 0 e, h]
  have fr := frB_cg (A := A) (A' := setA A j 0 v) (s 2 0 (by omega)) (fun k _ _ => ⟨s 9 k (by omega), s 10 k (by omega)⟩)
  obtain ⟨h0, h1, h2, h3, h4, h5, h6, h7, h8, h9, h10, h11, h12, h13⟩ := H
  refine ⟨same 0 h0, same 1 h1, same 2 h2, same 3 h3, same 4 h4, same 5 h5, ⟨?_, fun f f0 f1 => ?_⟩, fun f f0 f1 => ?_, fun q q0 q1 => ?_, fun q q0 q1 => ?_, fun k k0 k1 => ?_, fun b b0 b1 => ?_, ⟨?_, fun f f0 f1 => ?_⟩, fun f f0 f1 => ?_⟩
  · rw [u 6 0 (by omega)]
    exact h6.1
  · rw [u 6 0 (by omega), s 1 0 (by omega), s 8 f (by omega)]
    exact h6.2 f f0 f1
  · rw [s 1 0 (by omega)] at f1
    rw [u 8 f (by omega), u 9 f (by omega), s 6 f (by omega), s 7 f (by omega)]
    exact h7 f f0 f1
  · rw [u 11 q (by omega)]
    refine ⟨(h8 q q0 q1).1, fun f f0 f1 => ?_⟩
    rw [s 1 0 (by omega), s 6 f (by omega)]
    exact (h8 q q0 q1).2 f f0 f1
  · rw [u 12 q (by omega)]
    refine ⟨(h9 q q0 q1).1, fun x x0 x1 => ?_⟩
    rw [fr]
    exact (h9 q q0 q1).2 x x0 x1
  · rw [s 2 0 (by omega)] at k1
    rw [u 13 k (by omega), u 14 k (by omega), s 9 k (by omega), s 10 k (by omega)]
    exact h10 k k0 k1
  · rw [s 3 0 (by omega)] at b1
    rw [u 15 b (by omega), s 11 b (by omega)]
    exact h11 b b0 b1
  · rw [u 7 0 (by omega)]
    exact h12.1
  · rw [u 7 0 (by omega), s 1 0 (by omega), s 12 f (by omega)]
    exact h12.2 f f0 f1
  · rw [u 10 f (by omega), s 1 0 (by omega), s 12 f (by omega)]
    exact h13 f f0 f1
theorem sp_addFact {T : TH} {o : Nat} {A : LA} {p g l : Int} (H : LdC T o A) (hA : LAk A) (hm : A 1 0 < 8) (p0 : 0 ≤ p) (p1 : p < 7) (l0 : 0 ≤ l) (l1 : l ≤ 1) {Q : TH → Prop} (hq : ∀ T', LdC T' o (adF A p g l) → (∀ (o' j : Nat) (i : Int), ¬ o' = o → T' o' j i = T o' j i) → Q T') : wp_X3_addFact o p g l T Q := by
  have n1 := hA.1.2.1
  obtain ⟨h0, h1, h2, h3, h4, h5, h6, h7, h8, h9, h10, h11, h12, h13⟩ := H
  unfold wp_X3_addFact
  rw [h1]
  refine ⟨n1.1, hm, ?_⟩
  intro T1 t1
  have e1 : T1 o 1 0 = A 1 0 := by rw [t1, up_ne (by omega), h1]
  rw [e1]
  refine ⟨n1.1, hm, ?_⟩
  intro T2 t2
  have e2 : T2 o 1 0 = A 1 0 := by rw [t2, up_ne (by omega), e1]
  rw [e2]
  refine ⟨p0, p1, p0, p1, ?_⟩
  intro T3 t3
  have e3 : T3 o 1 0 = A 1 0 := by rw [t3, up_ne (by omega), e2]
  rw [e3]
  intro T4 t4
  have e4 : T4 o 1 0 = A 1 0 := by rw [t4, up_ne (by omega), e3]
  rw [e4]
  intro T5 t5
  have u : ∀ (o' j : Nat) (i : Int), ¬ (o' = o ∧ ((j = 8 ∧ i = A 1 0) ∨ (j = 9 ∧ i = A 1 0) ∨ (j = 11 ∧ i = p) ∨ (j = 6 ∧ i = 0) ∨ (j = 1 ∧ i = 0))) → T5 o' j i = T o' j i := fun o' j i hn => by
    rw [t5, up_ne (by omega), t4, up_ne (by omega), t3, up_ne (by omega), t2, up_ne (by omega), t1, up_ne (by omega)]
  have u1 : T5 o 1 0 = A 1 0 + 1 := by rw [t5, up_eq]
  have u6 : T5 o 6 0 = zor (T o 6 0) (zshl l (A 1 0)) := by
    rw [t5, up_ne (by omega), t4, up_eq, t3, up_ne (by omega), t2, up_ne (by omega), t1, up_ne (by omega)]
  have u11 : T5 o 11 p = zor (T o 11 p) (zshl 1 (A 1 0)) := by
    rw [t5, up_ne (by omega), t4, up_ne (by omega), t3, up_eq, t2, up_ne (by omega), t1, up_ne (by omega)]
  have u8 : T5 o 8 (A 1 0) = p := by
    rw [t5, up_ne (by omega), t4, up_ne (by omega), t3, up_ne (by omega), t2, up_ne (by omega), t1, up_eq]
  have u9 : T5 o 9 (A 1 0) = g := by
    rw [t5, up_ne (by omega), t4, up_ne (by omega), t3, up_ne (by omega), t2, up_eq]
  obtain ⟨s, s1, s6, s7, s8, s12⟩ := adF_j (A := A) (p := p) (g := g) (l := l)
  have fr := frB_cg (A := A) (A' := adF A p g l) (s 2 0 (by omega) (by omega)) (fun k _ _ => ⟨s 9 k (by omega) (by omega), s 10 k (by omega) (by omega)⟩)
  have b6 : ms 8 (T5 o 6 0) ∧ ∀ f, 0 ≤ f → f < 8 → bt (T5 o 6 0) f = (bt (T o 6 0) f || (decide (f = A 1 0) && decide (l = 1))) := by
    rw [u6]
    by_cases el : l = 1
    · subst el
      obtain ⟨x1, x2⟩ := put_b (k := A 1 0) h6.1 n1.1 (by omega) (by decide)
      refine ⟨x1, fun f f0 f1 => ?_⟩
      rw [x2 f f0]
      simp
    · have : l = 0 := by omega
      subst this
      have z := zshl_00 (A 1 0).toNat (by omega)
      rw [show (((A 1 0).toNat : Nat) : Int) = A 1 0 by omega] at z
      rw [z, zor_0 h6.1 (by decide)]
      refine ⟨h6.1, fun f f0 f1 => ?_⟩
      simp
  refine hq T5 ⟨?_, ?_, ?_, ?_, ?_, ?_, ⟨b6.1, fun f f0 f1 => ?_⟩, fun f f0 f1 => ?_, fun q q0 q1 => ?_, fun q q0 q1 => ?_, fun k k0 k1 => ?_, fun b b0 b1 => ?_, ⟨?_, fun f f0 f1 => ?_⟩, fun f f0 f1 => ?_⟩ (fun o' j i hn => u o' j i (by omega))
  · rw [u _ _ _ (by omega), s 0 0 (by omega) (by omega), h0]
  · rw [u1, s1]
  · rw [u _ _ _ (by omega), s 2 0 (by omega) (by omega), h2]
  · rw [u _ _ _ (by omega), s 3 0 (by omega) (by omega), h3]
  · rw [u _ _ _ (by omega), s 4 0 (by omega) (by omega), h4]
  · rw [u _ _ _ (by omega), s 5 0 (by omega) (by omega), h5]
  · rw [b6.2 f f0 f1, h6.2 f f0 f1, s1]
    by_cases e : f = A 1 0
    · rw [e, s8]
      simp
      intro _
      omega
    · rw [s 8 f (by omega) (by omega), decide_eq_false e, Bool.false_and, Bool.or_false]
      exact decide_eq_decide.mpr ⟨fun z => ⟨by omega, z.2⟩, fun z => ⟨by omega, z.2⟩⟩
  · rw [s1] at f1
    by_cases e : f = A 1 0
    · rw [e, u8, u9, s6, s7]
      exact ⟨rfl, rfl⟩
    · rw [u _ _ _ (by omega), u _ _ _ (by omega), s 6 f (by omega) (by omega), s 7 f (by omega) (by omega)]
      exact h7 f f0 (by omega)
  · obtain ⟨c1, c2⟩ := h8 q q0 q1
    by_cases e : q = p
    · rw [e] at c1 c2 ⊢
      obtain ⟨x1, x2⟩ := put_b (k := A 1 0) c1 n1.1 (by omega) (by decide)
      rw [u11]
      refine ⟨x1, fun f f0 f1 => ?_⟩
      rw [x2 f f0, c2 f f0 f1, s1]
      by_cases e2 : f = A 1 0
      · rw [e2, s6, decide_eq_true (show A 1 0 = A 1 0 from rfl), Bool.or_true, decide_eq_true ⟨by omega, rfl⟩]
      · rw [decide_eq_false e2, Bool.or_false, s 6 f (by omega) (by omega)]
        exact decide_eq_decide.mpr ⟨fun z => ⟨by omega, z.2⟩, fun z => ⟨by omega, z.2⟩⟩
    · rw [u _ _ _ (by omega)]
      refine ⟨c1, fun f f0 f1 => ?_⟩
      rw [c2 f f0 f1, s1]
      by_cases e2 : f = A 1 0
      · rw [e2, s6, decide_eq_false (by omega), decide_eq_false (by omega)]
      · rw [s 6 f (by omega) (by omega)]
        exact decide_eq_decide.mpr ⟨fun z => ⟨by omega, z.2⟩, fun z => ⟨by omega, z.2⟩⟩
  · rw [u _ _ _ (by omega)]
    refine ⟨(h9 q q0 q1).1, fun x x0 x1 => ?_⟩
    rw [fr]
    exact (h9 q q0 q1).2 x x0 x1
  · rw [s 2 0 (by omega) (by omega)] at k1
    rw [u _ _ _ (by omega), u _ _ _ (by omega), s 9 k (by omega) (by omega), s 10 k (by omega) (by omega)]
    exact h10 k k0 k1
  · rw [s 3 0 (by omega) (by omega)] at b1
    rw [u _ _ _ (by omega), s 11 b (by omega) (by omega)]
    exact h11 b b0 b1
  · rw [u _ _ _ (by omega)]
    exact h12.1
  · rw [u _ _ _ (by omega), h12.2 f f0 f1, s1]
    by_cases e2 : f = A 1 0
    · rw [e2, s12, decide_eq_false (by omega), decide_eq_false (fun z => z.2 rfl)]
    · rw [s 12 f (by omega) (by omega)]
      exact decide_eq_decide.mpr ⟨fun z => ⟨by omega, z.2⟩, fun z => ⟨by omega, z.2⟩⟩
  · rw [u _ _ _ (by omega), h13 f f0 f1, s1]
    by_cases e2 : f = A 1 0
    · rw [e2, s12, if_neg (by omega), if_neg (fun z => z.2 rfl)]
    · rw [s 12 f (by omega) (by omega)]
      by_cases e3 : f < A 1 0 ∧ A 12 f ≠ -1
      · rw [if_pos e3, if_pos ⟨by omega, e3.2⟩]
      · rw [if_neg e3, if_neg (fun z => e3 ⟨by omega, z.2⟩)]
theorem sp_addFr {T : TH} {o : Nat} {A : LA} {a b : Int} (H : LdC T o A) (hA : LAk A) (hm : A 2 0 < 12) (a0 : 0 ≤ a) (a1 : a < 7) (b0 : 0 ≤ b) (b1 : b < 7) (ab : a ≠ b) {Q : TH → Prop} (hq : ∀ T', LdC T' o (adP A a b) → (∀ (o' j : Nat) (i : Int), ¬ o' = o → T' o' j i = T o' j i) → Q T') : wp_X3_addFriendship o a b T Q := by
  have n2 := hA.1.2.2.1
  obtain ⟨h0, h1, h2, h3, h4, h5, h6, h7, h8, h9, h10, h11, h12, h13⟩ := H
  unfold wp_X3_addFriendship
  rw [h2]
  refine ⟨n2.1, hm, ?_⟩
  intro T1 t1
  have e1 : T1 o 2 0 = A 2 0 := by rw [t1, up_ne (by omega), h2]
  rw [e1]
  refine ⟨n2.1, hm, ?_⟩
  intro T2 t2
  have e2 : T2 o 2 0 = A 2 0 := by rw [t2, up_ne (by omega), e1]
  refine ⟨a0, a1, a0, a1, ?_⟩
  intro T3 t3
  refine ⟨b0, b1, b0, b1, ?_⟩
  intro T4 t4
  have e4 : T4 o 2 0 = A 2 0 := by rw [t4, up_ne (by omega), t3, up_ne (by omega), e2]
  rw [e4]
  intro T5 t5
  have u : ∀ (o' j : Nat) (i : Int), ¬ (o' = o ∧ ((j = 13 ∧ i = A 2 0) ∨ (j = 14 ∧ i = A 2 0) ∨ (j = 12 ∧ (i = a ∨ i = b)) ∨ (j = 2 ∧ i = 0))) → T5 o' j i = T o' j i := fun o' j i hn => by
    rw [t5, up_ne (by omega), t4, up_ne (by omega), t3, up_ne (by omega), t2, up_ne (by omega), t1, up_ne (by omega)]
  have u2 : T5 o 2 0 = A 2 0 + 1 := by rw [t5, up_eq]
  have ua : T5 o 12 a = zor (T o 12 a) (zshl 1 b) := by
    rw [t5, up_ne (by omega), t4, up_ne (by omega), t3, up_eq, t2, up_ne (by omega), t1, up_ne (by omega)]
  have ub : T5 o 12 b = zor (T o 12 b) (zshl 1 a) := by
    rw [t5, up_ne (by omega), t4, up_eq, t3, up_ne (by omega), t2, up_ne (by omega), t1, up_ne (by omega)]
  have u13 : T5 o 13 (A 2 0) = a := by
    rw [t5, up_ne (by omega), t4, up_ne (by omega), t3, up_ne (by omega), t2, up_ne (by omega), t1, up_eq]
  have u14 : T5 o 14 (A 2 0) = b := by
    rw [t5, up_ne (by omega), t4, up_ne (by omega), t3, up_ne (by omega), t2, up_eq]
  obtain ⟨s, s2, s9, s10⟩ := adP_j (A := A) (a := a) (b := b)
  have fr := fun p q => frB_ad hA.1 a b p q
  refine hq T5 ⟨?_, ?_, ?_, ?_, ?_, ?_, ⟨?_, fun f f0 f1 => ?_⟩, fun f f0 f1 => ?_, fun q q0 q1 => ?_, fun q q0 q1 => ?_, fun k k0 k1 => ?_, fun x x0 x1 => ?_, ⟨?_, fun f f0 f1 => ?_⟩, fun f f0 f1 => ?_⟩ (fun o' j i hn => u o' j i (by omega))
  · rw [u _ _ _ (by omega), s 0 0 (by omega) (by omega), h0]
  · rw [u _ _ _ (by omega), s 1 0 (by omega) (by omega), h1]
  · rw [u2, s2]
  · rw [u _ _ _ (by omega), s 3 0 (by omega) (by omega), h3]
  · rw [u _ _ _ (by omega), s 4 0 (by omega) (by omega), h4]
  · rw [u _ _ _ (by omega), s 5 0 (by omega) (by omega), h5]
  · rw [u _ _ _ (by omega)]
    exact h6.1
  · rw [u _ _ _ (by omega), s 1 0 (by omega) (by omega), s 8 f (by omega) (by omega)]
    exact h6.2 f f0 f1
  · rw [s 1 0 (by omega) (by omega)] at f1
    rw [u _ _ _ (by omega), u _ _ _ (by omega), s 6 f (by omega) (by omega), s 7 f (by omega) (by omega)]
    exact h7 f f0 f1
  · rw [u _ _ _ (by omega)]
    refine ⟨(h8 q q0 q1).1, fun f f0 f1 => ?_⟩
    rw [s 1 0 (by omega) (by omega), s 6 f (by omega) (by omega)]
    exact (h8 q q0 q1).2 f f0 f1
  · obtain ⟨c1, c2⟩ := h9 q q0 q1
    by_cases e : q = a
    · rw [e] at c1 c2 ⊢
      obtain ⟨x1, x2⟩ := put_b (k := b) c1 b0 (by omega) (by decide)
      rw [ua]
      refine ⟨x1, fun x x0 xx => ?_⟩
      rw [x2 x x0, c2 x x0 xx, fr]
      congr 1
      exact decide_eq_decide.mpr ⟨fun z => Or.inl ⟨rfl, z.symm⟩, fun z => by omega⟩
    · by_cases e2 : q = b
      · rw [e2] at c1 c2 ⊢
        obtain ⟨x1, x2⟩ := put_b (k := a) c1 a0 (by omega) (by decide)
        rw [ub]
        refine ⟨x1, fun x x0 xx => ?_⟩
        rw [x2 x x0, c2 x x0 xx, fr]
        congr 1
        exact decide_eq_decide.mpr ⟨fun z => Or.inr ⟨rfl, z.symm⟩, fun z => by omega⟩
      · rw [u _ _ _ (by omega)]
        refine ⟨c1, fun x x0 xx => ?_⟩
        rw [c2 x x0 xx, fr, decide_eq_false (by omega), Bool.or_false]
  · rw [s2] at k1
    by_cases e : k = A 2 0
    · rw [e, u13, u14, s9, s10]
      exact ⟨rfl, rfl⟩
    · rw [u _ _ _ (by omega), u _ _ _ (by omega), s 9 k (by omega) (by omega), s 10 k (by omega) (by omega)]
      exact h10 k k0 (by omega)
  · rw [s 3 0 (by omega) (by omega)] at x1
    rw [u _ _ _ (by omega), s 11 x (by omega) (by omega)]
    exact h11 x x0 x1
  · rw [u _ _ _ (by omega)]
    exact h12.1
  · rw [u _ _ _ (by omega), s 1 0 (by omega) (by omega), s 12 f (by omega) (by omega)]
    exact h12.2 f f0 f1
  · rw [u _ _ _ (by omega), s 1 0 (by omega) (by omega), s 12 f (by omega) (by omega)]
    exact h13 f f0 f1
theorem LdC_b {T : TH} {o : Nat} {A : LA} {v : Int} (H : LdC T o A) : LdC (up (up T o 15 (A 3 0) v) o 3 0 (A 3 0 + 1)) o (adB A v) := by
  have u : ∀ (j : Nat) (i : Int), ¬ ((j = 15 ∧ i = A 3 0) ∨ (j = 3 ∧ i = 0)) → up (up T o 15 (A 3 0) v) o 3 0 (A 3 0 + 1) o j i = T o j i := fun j i hn => by
    rw [up_ne (by omega), up_ne (by omega)]
  obtain ⟨h0, h1, h2, h3, h4, h5, h6, h7, h8, h9, h10, h11, h12, h13⟩ := H
  obtain ⟨s, s3, s11⟩ := adB_j (A := A) (v := v)
  have fr := frB_cg (A := A) (A' := adB A v) (s 2 0 (by omega) (by omega)) (fun k _ _ => ⟨s 9 k (by omega) (by omega), s 10 k (by omega) (by omega)⟩)
  refine ⟨?_, ?_, ?_, ?_, ?_, ?_, ⟨?_, fun f f0 f1 => ?_⟩, fun f f0 f1 => ?_, fun q q0 q1 => ?_, fun q q0 q1 => ?_, fun k k0 k1 => ?_, fun x x0 x1 => ?_, ⟨?_, fun f f0 f1 => ?_⟩, fun f f0 f1 => ?_⟩
  · rw [u _ _ (by omega), s 0 0 (by omega) (by omega), h0]
  · rw [u _ _ (by omega), s 1 0 (by omega) (by omega), h1]
  · rw [u _ _ (by omega), s 2 0 (by omega) (by omega), h2]
  · rw [up_eq, s3]
  · rw [u _ _ (by omega), s 4 0 (by omega) (by omega), h4]
  · rw [u _ _ (by omega), s 5 0 (by omega) (by omega), h5]
  · rw [u _ _ (by omega)]
    exact h6.1
  · rw [u _ _ (by omega), s 1 0 (by omega) (by omega), s 8 f (by omega) (by omega)]
    exact h6.2 f f0 f1
  · rw [s 1 0 (by omega) (by omega)] at f1
    rw [u _ _ (by omega), u _ _ (by omega), s 6 f (by omega) (by omega), s 7 f (by omega) (by omega)]
    exact h7 f f0 f1
  · rw [u _ _ (by omega)]
    refine ⟨(h8 q q0 q1).1, fun f f0 f1 => ?_⟩
    rw [s 1 0 (by omega) (by omega), s 6 f (by omega) (by omega)]
    exact (h8 q q0 q1).2 f f0 f1
  · rw [u _ _ (by omega)]
    refine ⟨(h9 q q0 q1).1, fun x x0 x1 => ?_⟩
    rw [fr]
    exact (h9 q q0 q1).2 x x0 x1
  · rw [s 2 0 (by omega) (by omega)] at k1
    rw [u _ _ (by omega), u _ _ (by omega), s 9 k (by omega) (by omega), s 10 k (by omega) (by omega)]
    exact h10 k k0 k1
  · rw [s3] at x1
    by_cases e : x = A 3 0
    · rw [e, up_ne (by omega), up_eq, s11]
    · rw [u _ _ (by omega), s 11 x (by omega) (by omega)]
      exact h11 x x0 (by omega)
  · rw [u _ _ (by omega)]
    exact h12.1
  · rw [u _ _ (by omega), s 1 0 (by omega) (by omega), s 12 f (by omega) (by omega)]
    exact h12.2 f f0 f1
  · rw [u _ _ (by omega), s 1 0 (by omega) (by omega), s 12 f (by omega) (by omega)]
    exact h13 f f0 f1
theorem LdC_k {T : TH} {o : Nat} {A : LA} {g v : Int} (g0 : 0 ≤ g) (g1 : g < A 1 0) (g8 : A 1 0 ≤ 8) (v0 : 0 ≤ v) (H : LdC T o A) : LdC (up (up T o 7 0 (zor (T o 7 0) (zshl 1 g))) o 10 g v) o (setA A 12 g v) := by
  have u : ∀ (j : Nat) (i : Int), ¬ ((j = 7 ∧ i = 0) ∨ (j = 10 ∧ i = g)) → up (up T o 7 0 (zor (T o 7 0) (zshl 1 g))) o 10 g v o j i = T o j i := fun j i hn => by
    rw [up_ne (by omega), up_ne (by omega)]
  have s : ∀ (j' : Nat) (i : Int), ¬ (j' = 12 ∧ i = g) → setA A 12 g v j' i = A j' i := fun j' i h => setA_ne h
  obtain ⟨h0, h1, h2, h3, h4, h5, h6, h7, h8, h9, h10, h11, h12, h13⟩ := H
  have fr := frB_cg (A := A) (A' := setA A 12 g v) (s 2 0 (by omega)) (fun k _ _ => ⟨s 9 k (by omega), s 10 k (by omega)⟩)
  obtain ⟨x1, x2⟩ := put_b (k := g) h12.1 g0 (by omega) (by decide)
  refine ⟨?_, ?_, ?_, ?_, ?_, ?_, ⟨?_, fun f f0 f1 => ?_⟩, fun f f0 f1 => ?_, fun q q0 q1 => ?_, fun q q0 q1 => ?_, fun k k0 k1 => ?_, fun x x0 x1 => ?_, ⟨?_, fun f f0 f1 => ?_⟩, fun f f0 f1 => ?_⟩
  · rw [u _ _ (by omega), s 0 0 (by omega), h0]
  · rw [u _ _ (by omega), s 1 0 (by omega), h1]
  · rw [u _ _ (by omega), s 2 0 (by omega), h2]
  · rw [u _ _ (by omega), s 3 0 (by omega), h3]
  · rw [u _ _ (by omega), s 4 0 (by omega), h4]
  · rw [u _ _ (by omega), s 5 0 (by omega), h5]
  · rw [u _ _ (by omega)]
    exact h6.1
  · rw [u _ _ (by omega), s 1 0 (by omega), s 8 f (by omega)]
    exact h6.2 f f0 f1
  · rw [s 1 0 (by omega)] at f1
    rw [u _ _ (by omega), u _ _ (by omega), s 6 f (by omega), s 7 f (by omega)]
    exact h7 f f0 f1
  · rw [u _ _ (by omega)]
    refine ⟨(h8 q q0 q1).1, fun f f0 f1 => ?_⟩
    rw [s 1 0 (by omega), s 6 f (by omega)]
    exact (h8 q q0 q1).2 f f0 f1
  · rw [u _ _ (by omega)]
    refine ⟨(h9 q q0 q1).1, fun x x0 x1 => ?_⟩
    rw [fr]
    exact (h9 q q0 q1).2 x x0 x1
  · rw [s 2 0 (by omega)] at k1
    rw [u _ _ (by omega), u _ _ (by omega), s 9 k (by omega), s 10 k (by omega)]
    exact h10 k k0 k1
  · rw [s 3 0 (by omega)] at x1
    rw [u _ _ (by omega), s 11 x (by omega)]
    exact h11 x x0 x1
  · rw [up_ne (by omega), up_eq]
    exact x1
  · rw [up_ne (by omega), up_eq, x2 f f0, h12.2 f f0 f1, s 1 0 (by omega)]
    by_cases e : f = g
    · rw [e, setA_hit, decide_eq_true (show g = g from rfl), Bool.or_true, decide_eq_true ⟨g1, by omega⟩]
    · rw [s 12 f (by omega), decide_eq_false e, Bool.or_false]
  · rw [s 1 0 (by omega)]
    by_cases e : f = g
    · rw [e, up_eq, setA_hit, if_pos ⟨g1, by omega⟩]
    · rw [u _ _ (by omega), s 12 f (by omega)]
      exact h13 f f0 f1
