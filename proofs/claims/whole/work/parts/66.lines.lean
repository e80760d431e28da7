/-! reading a text: the reference's clauses -/
def RfM (T : TH) (A : LA) : Prop := T 13 8 0 = A 0 0 ∧ T 13 9 0 = A 1 0 ∧ T 13 11 0 = A 2 0 ∧ T 13 14 0 = A 3 0 ∧ T 13 16 0 = A 4 0 ∧ T 13 13 0 = A 5 0 ∧
  (∀ f, 0 ≤ f → f < A 1 0 → T 13 10 (4 * f) = A 6 f ∧ T 13 10 (4 * f + 1) = A 7 f ∧ T 13 10 (4 * f + 2) = A 8 f ∧ T 13 10 (4 * f + 3) = A 12 f) ∧
  (∀ k, 0 ≤ k → k < A 2 0 → T 13 12 (2 * k) = A 9 k ∧ T 13 12 (2 * k + 1) = A 10 k) ∧
  (∀ b, 0 ≤ b → b < A 3 0 → T 13 15 b = A 11 b)
theorem RfM.n {T T' : TH} {A : LA} (H : RfM T A) (N : N9 T T') : RfM T' A := by
  have e : ∀ (j : Nat) (i : Int), 6 ≤ j → T' 13 j i = T 13 j i := fun j i hj => N _ _ _ (by omega)
  obtain ⟨h0, h1, h2, h3, h4, h5, h6, h7, h8⟩ := H
  refine ⟨by rw [e _ _ (by decide), h0], by rw [e _ _ (by decide), h1], by rw [e _ _ (by decide), h2], by rw [e _ _ (by decide), h3], by rw [e _ _ (by decide), h4], by rw [e _ _ (by decide), h5], fun f f0 f1 => ?_, fun f f0 f1 => ?_, fun f f0 f1 => ?_⟩
  · rw [e _ _ (by decide), e _ _ (by decide), e _ _ (by decide), e _ _ (by decide)]
    exact h6 f f0 f1
  · rw [e _ _ (by decide), e _ _ (by decide)]
    exact h7 f f0 f1
  · rw [e _ _ (by decide)]
    exact h8 f f0 f1
theorem RfM_j {T : TH} {A : LA} {j J : Nat} {v : Int} (hj : (j = 0 ∧ J = 8) ∨ (j = 4 ∧ J = 16) ∨ (j = 5 ∧ J = 13)) (H : RfM T A) : RfM (up T 13 J 0 v) (setA A j 0 v) := by
  have u : ∀ (j' : Nat) (i : Int), j' ≠ J → up T 13 J 0 v 13 j' i = T 13 j' i := fun j' i h => up_ne (fun z => h z.2.1)
  have s : ∀ (j' : Nat) (i : Int), j' ≠ j → setA A j 0 v j' i = A j' i := fun j' i h => setA_ne (fun z => h z.1)
  obtain ⟨h0, h1, h2, h3, h4, h5, h6, h7, h8⟩ := H
  have same : ∀ a b : Nat, (a = j ↔ b = J) → T 13 b 0 = A a 0 → up T 13 J 0 v 13 b 0 = setA A j 0 v a 0 := fun a b hab h => by
    by_cases e : a = j
    · have e2 := hab.mp e
      subst e
      subst e2
      rw [up_eq, setA_hit]
    · rw [u b 0 (fun z => e (hab.mpr z)), s a 0 e, h]
  refine ⟨same 0 8 (by omega) h0, same 1 9 (by omega) h1, same 2 11 (by omega) h2, same 3 14 (by omega) h3, same 4 16 (by omega) h4, same 5 13 (by omega) h5, fun f f0 f1 => ?_, fun f f0 f1 => ?_, fun f f0 f1 => ?_⟩
  · rw [s 1 0 (by omega)] at f1
    rw [u 10 _ (by omega), u 10 _ (by omega), u 10 _ (by omega), u 10 _ (by omega), s 6 f (by omega), s 7 f (by omega), s 8 f (by omega), s 12 f (by omega)]
    exact h6 f f0 f1
  · rw [s 2 0 (by omega)] at f1
    rw [u 12 _ (by omega), u 12 _ (by omega), s 9 f (by omega), s 10 f (by omega)]
    exact h7 f f0 f1
  · rw [s 3 0 (by omega)] at f1
    rw [u 15 _ (by omega), s 11 f (by omega)]
    exact h8 f f0 f1
theorem RfM_f {T T2 : TH} {A : LA} {p g l : Int} (H : RfM T A) (fr : ∀ (j : Nat) (i : Int), ¬ (2 ≤ j ∧ j ≤ 5) → ¬ (j = 10 ∧ 4 * A 1 0 ≤ i) → ¬ (j = 9 ∧ i = 0) → T2 13 j i = T 13 j i) (e9 : T2 13 9 0 = A 1 0 + 1) (w0 : T2 13 10 (4 * A 1 0) = p) (w1 : T2 13 10 (4 * A 1 0 + 1) = g) (w2 : T2 13 10 (4 * A 1 0 + 2) = l) (w3 : T2 13 10 (4 * A 1 0 + 3) = -1) : RfM T2 (adF A p g l) := by
  obtain ⟨h0, h1, h2, h3, h4, h5, h6, h7, h8⟩ := H
  obtain ⟨s, s1, s6, s7, s8, s12⟩ := adF_j (A := A) (p := p) (g := g) (l := l)
  refine ⟨?_, ?_, ?_, ?_, ?_, ?_, fun f f0 f1 => ?_, fun f f0 f1 => ?_, fun f f0 f1 => ?_⟩
  · rw [fr _ _ (by omega) (by omega) (by omega), s 0 0 (by omega) (by omega), h0]
  · rw [e9, s1]
  · rw [fr _ _ (by omega) (by omega) (by omega), s 2 0 (by omega) (by omega), h2]
  · rw [fr _ _ (by omega) (by omega) (by omega), s 3 0 (by omega) (by omega), h3]
  · rw [fr _ _ (by omega) (by omega) (by omega), s 4 0 (by omega) (by omega), h4]
  · rw [fr _ _ (by omega) (by omega) (by omega), s 5 0 (by omega) (by omega), h5]
  · rw [s1] at f1
    by_cases e : f = A 1 0
    · rw [e, w0, w1, w2, w3, s6, s7, s8, s12]
      exact ⟨rfl, rfl, rfl, rfl⟩
    · rw [fr _ _ (by omega) (by omega) (by omega), fr _ _ (by omega) (by omega) (by omega), fr _ _ (by omega) (by omega) (by omega), fr _ _ (by omega) (by omega) (by omega), s 6 f (by omega) (by omega), s 7 f (by omega) (by omega), s 8 f (by omega) (by omega), s 12 f (by omega) (by omega)]
      exact h6 f f0 (by omega)
  · rw [s 2 0 (by omega) (by omega)] at f1
    rw [fr _ _ (by omega) (by omega) (by omega), fr _ _ (by omega) (by omega) (by omega), s 9 f (by omega) (by omega), s 10 f (by omega) (by omega)]
    exact h7 f f0 f1
  · rw [s 3 0 (by omega) (by omega)] at f1
    rw [fr _ _ (by omega) (by omega) (by omega), s 11 f (by omega) (by omega)]
    exact h8 f f0 f1
theorem RfM_k {T : TH} {A : LA} {g v : Int} (H : RfM T A) : RfM (up T 13 10 (4 * g + 3) v) (setA A 12 g v) := by
  have u : ∀ (j : Nat) (i : Int), ¬ (j = 10 ∧ i = 4 * g + 3) → up T 13 10 (4 * g + 3) v 13 j i = T 13 j i := fun j i h => up_ne (by omega)
  have s : ∀ (j : Nat) (i : Int), ¬ (j = 12 ∧ i = g) → setA A 12 g v j i = A j i := fun j i h => setA_ne h
  obtain ⟨h0, h1, h2, h3, h4, h5, h6, h7, h8⟩ := H
  refine ⟨?_, ?_, ?_, ?_, ?_, ?_, fun f f0 f1 => ?_, fun f f0 f1 => ?_, fun f f0 f1 => ?_⟩
  · rw [u _ _ (by omega), s 0 0 (by omega), h0]
  · rw [u _ _ (by omega), s 1 0 (by omega), h1]
  · rw [u _ _ (by omega), s 2 0 (by omega), h2]
  · rw [u _ _ (by omega), s 3 0 (by omega), h3]
  · rw [u _ _ (by omega), s 4 0 (by omega), h4]
  · rw [u _ _ (by omega), s 5 0 (by omega), h5]
  · rw [s 1 0 (by omega)] at f1
    rw [u _ (4 * f) (by omega), u _ (4 * f + 1) (by omega), u _ (4 * f + 2) (by omega), s 6 f (by omega), s 7 f (by omega), s 8 f (by omega)]
    obtain ⟨x1, x2, x3, x4⟩ := h6 f f0 f1
    refine ⟨x1, x2, x3, ?_⟩
    by_cases e : f = g
    · rw [e, up_eq, setA_hit]
    · rw [u _ _ (by omega), s 12 f (by omega), x4]
  · rw [s 2 0 (by omega)] at f1
    rw [u _ _ (by omega), u _ _ (by omega), s 9 f (by omega), s 10 f (by omega)]
    exact h7 f f0 f1
  · rw [s 3 0 (by omega)] at f1
    rw [u _ _ (by omega), s 11 f (by omega)]
    exact h8 f f0 f1
theorem RfM_w {T : TH} {A : LA} {a b : Int} (n2 : 0 ≤ A 2 0) (H : RfM T A) : RfM (up (up (up T 13 12 (2 * A 2 0) a) 13 12 (2 * A 2 0 + 1) b) 13 11 0 (A 2 0 + 1)) (adP A a b) := by
  have u : ∀ (j : Nat) (i : Int), ¬ (j = 12 ∧ 2 * A 2 0 ≤ i) → ¬ (j = 11 ∧ i = 0) → up (up (up T 13 12 (2 * A 2 0) a) 13 12 (2 * A 2 0 + 1) b) 13 11 0 (A 2 0 + 1) 13 j i = T 13 j i := fun j i h h2 => by
    rw [up_ne (by omega), up_ne (by omega), up_ne (by omega)]
  obtain ⟨s, s2, s9, s10⟩ := adP_j (A := A) (a := a) (b := b)
  obtain ⟨h0, h1, h2, h3, h4, h5, h6, h7, h8⟩ := H
  refine ⟨?_, ?_, ?_, ?_, ?_, ?_, fun f f0 f1 => ?_, fun f f0 f1 => ?_, fun f f0 f1 => ?_⟩
  · rw [u _ _ (by omega) (by omega), s 0 0 (by omega) (by omega), h0]
  · rw [u _ _ (by omega) (by omega), s 1 0 (by omega) (by omega), h1]
  · rw [up_eq, s2]
  · rw [u _ _ (by omega) (by omega), s 3 0 (by omega) (by omega), h3]
  · rw [u _ _ (by omega) (by omega), s 4 0 (by omega) (by omega), h4]
  · rw [u _ _ (by omega) (by omega), s 5 0 (by omega) (by omega), h5]
  · rw [s 1 0 (by omega) (by omega)] at f1
    rw [u _ _ (by omega) (by omega), u _ _ (by omega) (by omega), u _ _ (by omega) (by omega), u _ _ (by omega) (by omega), s 6 f (by omega) (by omega), s 7 f (by omega) (by omega), s 8 f (by omega) (by omega), s 12 f (by omega) (by omega)]
    exact h6 f f0 f1
  · rw [s2] at f1
    by_cases e : f = A 2 0
    · rw [e, s9, s10]
      refine ⟨?_, ?_⟩
      · rw [up_ne (by omega), up_ne (by omega), up_eq]
      · rw [up_ne (by omega), up_eq]
    · rw [u _ _ (by omega) (by omega), u _ _ (by omega) (by omega), s 9 f (by omega) (by omega), s 10 f (by omega) (by omega)]
      exact h7 f f0 (by omega)
  · rw [s 3 0 (by omega) (by omega)] at f1
    rw [u _ _ (by omega) (by omega), s 11 f (by omega) (by omega)]
    exact h8 f f0 f1
theorem RfM_b {T : TH} {A : LA} {v : Int} (H : RfM T A) : RfM (up (up T 13 15 (A 3 0) v) 13 14 0 (A 3 0 + 1)) (adB A v) := by
  have u : ∀ (j : Nat) (i : Int), ¬ (j = 15 ∧ i = A 3 0) → ¬ (j = 14 ∧ i = 0) → up (up T 13 15 (A 3 0) v) 13 14 0 (A 3 0 + 1) 13 j i = T 13 j i := fun j i h h2 => by
    rw [up_ne (by omega), up_ne (by omega)]
  obtain ⟨s, s3, s11⟩ := adB_j (A := A) (v := v)
  obtain ⟨h0, h1, h2, h3, h4, h5, h6, h7, h8⟩ := H
  refine ⟨?_, ?_, ?_, ?_, ?_, ?_, fun f f0 f1 => ?_, fun f f0 f1 => ?_, fun f f0 f1 => ?_⟩
  · rw [u _ _ (by omega) (by omega), s 0 0 (by omega) (by omega), h0]
  · rw [u _ _ (by omega) (by omega), s 1 0 (by omega) (by omega), h1]
  · rw [u _ _ (by omega) (by omega), s 2 0 (by omega) (by omega), h2]
  · rw [up_eq, s3]
  · rw [u _ _ (by omega) (by omega), s 4 0 (by omega) (by omega), h4]
  · rw [u _ _ (by omega) (by omega), s 5 0 (by omega) (by omega), h5]
  · rw [s 1 0 (by omega) (by omega)] at f1
    rw [u _ _ (by omega) (by omega), u _ _ (by omega) (by omega), u _ _ (by omega) (by omega), u _ _ (by omega) (by omega), s 6 f (by omega) (by omega), s 7 f (by omega) (by omega), s 8 f (by omega) (by omega), s 12 f (by omega) (by omega)]
    exact h6 f f0 f1
  · rw [s 2 0 (by omega) (by omega)] at f1
    rw [u _ _ (by omega) (by omega), u _ _ (by omega) (by omega), s 9 f (by omega) (by omega), s 10 f (by omega) (by omega)]
    exact h7 f f0 f1
  · rw [s3] at f1
    by_cases e : f = A 3 0
    · rw [e, up_ne (by omega), up_eq, s11]
    · rw [u _ _ (by omega) (by omega), s 11 f (by omega) (by omega)]
      exact h8 f f0 (by omega)
/-! what a clause says, word by word -/
theorem fw_t0 {A : LA} {w : Int} (e : w = 116) (z : A 0 0 = 0) : fwW A w = 0 := by
  unfold fwW
  rw [if_pos z, if_pos e]
theorem fw_n0 {A : LA} {w : Int} (e : ¬ w = 116) (z : A 0 0 = 0) : fwW A w = 1 := by
  unfold fwW
  rw [if_pos z, if_neg e]
theorem fw_t {A : LA} {w : Int} (e : w = 116) (z : ¬ A 0 0 = 0) : fwW A w = 3 := by
  unfold fwW
  rw [if_neg z, if_pos e]
theorem fw_f {A : LA} {w : Int} (e : w = 102) (z : ¬ A 0 0 = 0) : fwW A w = if A 1 0 < 8 then 0 else 3 := by
  unfold fwW
  rw [if_neg z, if_neg (by omega : ¬ w = 116), if_pos e]
theorem fw_w {A : LA} {w : Int} (e : w = 119) (z : ¬ A 0 0 = 0) : fwW A w = if A 2 0 < 12 then 0 else 3 := by
  unfold fwW
  rw [if_neg z, if_neg (by omega : ¬ w = 116), if_neg (by omega : ¬ w = 102), if_pos e]
theorem fw_b {A : LA} {w : Int} (e : w = 98) (z : ¬ A 0 0 = 0) : fwW A w = if A 3 0 < 4 then 0 else 3 := by
  unfold fwW
  rw [if_neg z, if_neg (by omega : ¬ w = 116), if_neg (by omega : ¬ w = 102), if_neg (by omega : ¬ w = 119), if_pos e]
theorem fw_g {A : LA} {w : Int} (e : w = 103) (z : ¬ A 0 0 = 0) : fwW A w = if A 4 0 = 0 then 0 else 3 := by
  unfold fwW
  rw [if_neg z, if_neg (by omega : ¬ w = 116), if_neg (by omega : ¬ w = 102), if_neg (by omega : ¬ w = 119), if_neg (by omega : ¬ w = 98), if_pos e]
theorem fw_k {A : LA} {w : Int} (e : w = 107) (z : ¬ A 0 0 = 0) : fwW A w = 0 := by
  unfold fwW
  rw [if_neg z, if_neg (by omega : ¬ w = 116), if_neg (by omega : ¬ w = 102), if_neg (by omega : ¬ w = 119), if_neg (by omega : ¬ w = 98), if_neg (by omega : ¬ w = 103), if_pos e]
theorem fw_m {A : LA} {w : Int} (e : w = 109) (z : ¬ A 0 0 = 0) : fwW A w = 0 := by
  unfold fwW
  rw [if_neg z, if_neg (by omega : ¬ w = 116), if_neg (by omega : ¬ w = 102), if_neg (by omega : ¬ w = 119), if_neg (by omega : ¬ w = 98), if_neg (by omega : ¬ w = 103), if_neg (by omega : ¬ w = 107), if_pos e]
theorem fw_n {A : LA} {w : Int} (z : ¬ A 0 0 = 0) (e1 : ¬ w = 116) (e2 : ¬ w = 102) (e3 : ¬ w = 119) (e4 : ¬ w = 98) (e5 : ¬ w = 103) (e6 : ¬ w = 107) (e7 : ¬ w = 109) : fwW A w = 1 := by
  unfold fwW
  rw [if_neg z, if_neg e1, if_neg e2, if_neg e3, if_neg e4, if_neg e5, if_neg e6, if_neg e7]
theorem Cl_ok {X : Int → Int} {n p k pl p' : Int} {A A' : LA} (h : ClP X n A p k pl p' A') (z : fwW A (X p) = 0) : BoP X n A p k pl p' A' := by
  rcases h with h | h
  · exact absurd z h.1
  · exact h.2
theorem Cl_t {X : Int → Int} {n p k pl p' : Int} {A A' : LA} (h : ClP X n A p k pl p' A') (z : fwW A (X p) = 0) (e : X p = 116) : NuP X n 1 7 (p + 1) k pl (fun v e _ => EnP X n e (setA A 0 0 v) k pl p' A') := by
  rcases Cl_ok h z with ⟨x, h⟩ | ⟨x, h⟩ | ⟨x, h⟩ | ⟨x, h⟩ | ⟨x, h⟩ | ⟨x, h⟩ | ⟨x, h⟩
  · exact h
  all_goals exact absurd (e.symm.trans x) (by decide)
theorem Cl_f {X : Int → Int} {n p k pl p' : Int} {A A' : LA} (h : ClP X n A p k pl p' A') (z : fwW A (X p) = 0) (e : X p = 102) : NuP X n 0 (A 0 0 - 1) (p + 1) k pl (fun v1 e1 _ => NuP X n 1 9 e1 k pl (fun v2 e2 _ => NuP X n 0 1 e2 k pl (fun v3 e3 _ => EnP X n e3 (adF A v1 v2 v3) k pl p' A'))) := by
  rcases Cl_ok h z with ⟨x, h⟩ | ⟨x, h⟩ | ⟨x, h⟩ | ⟨x, h⟩ | ⟨x, h⟩ | ⟨x, h⟩ | ⟨x, h⟩
  · exact absurd (e.symm.trans x) (by decide)
  · exact h
  all_goals exact absurd (e.symm.trans x) (by decide)
theorem Cl_k {X : Int → Int} {n p k pl p' : Int} {A A' : LA} (h : ClP X n A p k pl p' A') (z : fwW A (X p) = 0) (e : X p = 107) : NuP X n 0 (A 1 0 - 1) (p + 1) k pl (fun f e1 a1 => AgP (A 12 f ≠ -1) a1 k pl (NuP X n 0 ((2 : Int) ^ (A 0 0).toNat - 1) e1 k pl (fun v e2 _ => EnP X n e2 (setA A 12 f v) k pl p' A'))) := by
  rcases Cl_ok h z with ⟨x, h⟩ | ⟨x, h⟩ | ⟨x, h⟩ | ⟨x, h⟩ | ⟨x, h⟩ | ⟨x, h⟩ | ⟨x, h⟩
  · exact absurd (e.symm.trans x) (by decide)
  · exact absurd (e.symm.trans x) (by decide)
  · exact h
  all_goals exact absurd (e.symm.trans x) (by decide)
theorem Cl_w {X : Int → Int} {n p k pl p' : Int} {A A' : LA} (h : ClP X n A p k pl p' A') (z : fwW A (X p) = 0) (e : X p = 119) : NuP X n 0 (A 0 0 - 1) (p + 1) k pl (fun a e1 _ => NuP X n 0 (A 0 0 - 1) e1 k pl (fun b e2 a2 => AgP (a = b ∨ frB A a b = true) a2 k pl (EnP X n e2 (adP A a b) k pl p' A'))) := by
  rcases Cl_ok h z with ⟨x, h⟩ | ⟨x, h⟩ | ⟨x, h⟩ | ⟨x, h⟩ | ⟨x, h⟩ | ⟨x, h⟩ | ⟨x, h⟩
  · exact absurd (e.symm.trans x) (by decide)
  · exact absurd (e.symm.trans x) (by decide)
  · exact absurd (e.symm.trans x) (by decide)
  · exact h
  all_goals exact absurd (e.symm.trans x) (by decide)
theorem Cl_m {X : Int → Int} {n p k pl p' : Int} {A A' : LA} (h : ClP X n A p k pl p' A') (z : fwW A (X p) = 0) (e : X p = 109) : NuP X n 0 (A 0 0 - 1) (p + 1) k pl (fun v e a1 => AgP (bt (A 5 0) v = true) a1 k pl (EnP X n e (setA A 5 0 (zor (A 5 0) (zshl 1 v))) k pl p' A')) := by
  rcases Cl_ok h z with ⟨x, h⟩ | ⟨x, h⟩ | ⟨x, h⟩ | ⟨x, h⟩ | ⟨x, h⟩ | ⟨x, h⟩ | ⟨x, h⟩
  · exact absurd (e.symm.trans x) (by decide)
  · exact absurd (e.symm.trans x) (by decide)
  · exact absurd (e.symm.trans x) (by decide)
  · exact absurd (e.symm.trans x) (by decide)
  · exact h
  all_goals exact absurd (e.symm.trans x) (by decide)
theorem Cl_b {X : Int → Int} {n p k pl p' : Int} {A A' : LA} (h : ClP X n A p k pl p' A') (z : fwW A (X p) = 0) (e : X p = 98) : NuP X n 0 999 (p + 1) k pl (fun v e _ => EnP X n e (adB A v) k pl p' A') := by
  rcases Cl_ok h z with ⟨x, h⟩ | ⟨x, h⟩ | ⟨x, h⟩ | ⟨x, h⟩ | ⟨x, h⟩ | ⟨x, h⟩ | ⟨x, h⟩
  · exact absurd (e.symm.trans x) (by decide)
  · exact absurd (e.symm.trans x) (by decide)
  · exact absurd (e.symm.trans x) (by decide)
  · exact absurd (e.symm.trans x) (by decide)
  · exact absurd (e.symm.trans x) (by decide)
  · exact h
  · exact absurd (e.symm.trans x) (by decide)
theorem Cl_g {X : Int → Int} {n p k pl p' : Int} {A A' : LA} (h : ClP X n A p k pl p' A') (z : fwW A (X p) = 0) (e : X p = 103) : NuP X n 1 99 (p + 1) k pl (fun v e _ => EnP X n e (setA A 4 0 v) k pl p' A') := by
  rcases Cl_ok h z with ⟨x, h⟩ | ⟨x, h⟩ | ⟨x, h⟩ | ⟨x, h⟩ | ⟨x, h⟩ | ⟨x, h⟩ | ⟨x, h⟩
  · exact absurd (e.symm.trans x) (by decide)
  · exact absurd (e.symm.trans x) (by decide)
  · exact absurd (e.symm.trans x) (by decide)
  · exact absurd (e.symm.trans x) (by decide)
  · exact absurd (e.symm.trans x) (by decide)
  · exact absurd (e.symm.trans x) (by decide)
  · exact h
/-! where a fault is -/
theorem NuP_pl {X : Int → Int} {n lo hi p k pl : Int} {F : Int → Int → Int → Prop} (n1 : n ≤ 250) (p0 : 0 ≤ p) (p1 : p ≤ n) (h : NuP X n lo hi p k pl F) (hf : ∀ v e a, (0 ≤ a ∧ a ≤ n) → 0 ≤ e → e ≤ n → F v e a → 0 ≤ pl ∧ pl ≤ n) : 0 ≤ pl ∧ pl ≤ n := by
  have sR := skS_R X n1 p0
  have nR := nu_R X n1 p0
  have sn := sR.2.1 p1
  have en := nR.2.2.1 p1
  rcases h with ⟨-, -, e⟩ | ⟨-, h⟩
  · rw [e]
    omega
  · exact hf _ _ _ ⟨by omega, sn⟩ (by omega) en h
theorem EnP_pl {X : Int → Int} {n e k pl p' : Int} {A1 A' : LA} (n1 : n ≤ 250) (e0 : 0 ≤ e) (e1 : e ≤ n) (k0 : k ≠ 0) (h : EnP X n e A1 k pl p' A') : 0 ≤ pl ∧ pl ≤ n := by
  have sR := skS_R X n1 e0
  have sn := sR.2.1 e1
  rcases h with ⟨-, z, -⟩ | ⟨-, -, z⟩
  · exact absurd z k0
  · rw [z]
    omega
theorem AgP_pl {g F : Prop} {n a k pl : Int} (a0 : 0 ≤ a ∧ a ≤ n) (h : AgP g a k pl F) (hf : F → 0 ≤ pl ∧ pl ≤ n) : 0 ≤ pl ∧ pl ≤ n := by
  rcases h with ⟨-, -, z⟩ | ⟨-, h⟩
  · rw [z]
    exact a0
  · exact hf h
theorem ClP_pl {X : Int → Int} {n p k pl p' : Int} {A A' : LA} (n1 : n ≤ 250) (p0 : 0 ≤ p) (p1 : p < n) (k0 : k ≠ 0) (h : ClP X n A p k pl p' A') : 0 ≤ pl ∧ pl ≤ n := by
  have q0 : 0 ≤ p + 1 := by omega
  have q1 : p + 1 ≤ n := by omega
  rcases h with ⟨-, -, z⟩ | ⟨-, h⟩
  · rw [z]
    omega
  rcases h with ⟨-, h⟩ | ⟨-, h⟩ | ⟨-, h⟩ | ⟨-, h⟩ | ⟨-, h⟩ | ⟨-, h⟩ | ⟨-, h⟩
  · exact NuP_pl n1 q0 q1 h (fun v e a _ e0 e1 h => EnP_pl n1 e0 e1 k0 h)
  · exact NuP_pl n1 q0 q1 h (fun v e a _ e0 e1 h => NuP_pl n1 e0 e1 h (fun v e a _ e0 e1 h => NuP_pl n1 e0 e1 h (fun v e a _ e0 e1 h => EnP_pl n1 e0 e1 k0 h)))
  · exact NuP_pl n1 q0 q1 h (fun v e a a0 e0 e1 h => AgP_pl a0 h (fun h => NuP_pl n1 e0 e1 h (fun v e a _ e0 e1 h => EnP_pl n1 e0 e1 k0 h)))
  · exact NuP_pl n1 q0 q1 h (fun v e a _ e0 e1 h => NuP_pl n1 e0 e1 h (fun v e a a0 e0 e1 h => AgP_pl a0 h (fun h => EnP_pl n1 e0 e1 k0 h)))
  · exact NuP_pl n1 q0 q1 h (fun v e a a0 e0 e1 h => AgP_pl a0 h (fun h => EnP_pl n1 e0 e1 k0 h))
  · exact NuP_pl n1 q0 q1 h (fun v e a _ e0 e1 h => EnP_pl n1 e0 e1 k0 h)
  · exact NuP_pl n1 q0 q1 h (fun v e a _ e0 e1 h => EnP_pl n1 e0 e1 k0 h)
/-! a clause: the reference reads it -/
def EdR (T : TH) (k pl p' : Int) (A' : LA) (Q : Bool → TH → Prop) : Prop := (k = 0 → ∀ T', F9 T T' → T' 13 6 0 = T 13 6 0 → T' 13 2 0 = p' → RfM T' A' → Q true T') ∧ (k ≠ 0 → ∀ T', F9 T T' → T' 13 7 0 = k → T' 13 6 0 = pl → Q false T')
theorem EdR.tr {T T1 : TH} {k pl p' : Int} {A' : LA} {Q : Bool → TH → Prop} (h : EdR T k pl p' A' Q) (f : F9 T T1) (e : T1 13 6 0 = T 13 6 0) : EdR T1 k pl p' A' Q :=
  ⟨fun z T' f' a6 a2 hR => h.1 z T' (f.tr f') (a6.trans e) a2 hR, fun z T' f' a7 a6 => h.2 z T' (f.tr f') a7 a6⟩
theorem sp9_end {T : TH} {X : Int → Int} {n e k pl p' : Int} {A1 A' : LA} {Q : Bool → TH → Prop} (hE : EnP X n e A1 k pl p' A') (hT : TxM T X n) (hp : T 13 2 0 = e) (e0 : 0 ≤ e) (e1 : e ≤ n) (hR : RfM T A1) (hq : EdR T k pl p' A' Q) : wp_X9_isEnd T Q := by
  rcases hE with ⟨c, x1, x2, x3⟩ | ⟨c, x1, x2⟩
  · refine sp9_endT hT hp e0 e1 (fun _ T' F a2 => ?_) (fun z => absurd c z)
    refine hq.1 x1 T' F.f (F _ _ _ (by omega)) (by rw [a2, x2]) ?_
    rw [x3]
    exact hR.n F
  · exact sp9_endT hT hp e0 e1 (fun z => absurd z c) (fun _ T' F a7 a6 => hq.2 (by rw [x1]; decide) T' F (by rw [a7, x1]) (by rw [a6, x2]))
theorem sp9_nu {T : TH} {X : Int → Int} {n q lo hi k pl p' : Int} {A' : LA} {F : Int → Int → Int → Prop} {Q : Bool → TH → Prop} {K : TH → Prop} (hN : NuP X n lo hi q k pl F) (hT : TxM T X n) (hp : T 13 2 0 = q) (q0 : 0 ≤ q) (q1 : q ≤ n) (zl : zR lo) (zh : zR hi) (hq : EdR T k pl p' A' Q) (hK : nuK X n lo hi q = 0 → F (nuV X n q) (nuE X n q) (skS X n q) → ∀ T', N9 T T' → T' 13 3 0 = skS X n q → T' 13 2 0 = nuE X n q → T' 13 5 0 = nuV X n q → EdR T' k pl p' A' Q → K T') : wp_X9_isNumber lo hi T (fun p2 T1 => (p2 = true → K T1) ∧ (p2 = false → Q false T1)) := by
  rcases hN with ⟨h1, e1, e2⟩ | ⟨h1, h2⟩
  · exact sp9_num hT hp q0 q1 zl zh (fun z => absurd z h1) (fun _ T' F7 a7 a6 => ⟨fun z => absurd z (by decide), fun _ => hq.2 (by rw [e1]; exact h1) T' F7 (by rw [a7, e1]) (by rw [a6, e2])⟩)
  · exact sp9_num hT hp q0 q1 zl zh (fun _ T' N a3 a2 a5 => ⟨fun _ => hK h1 h2 T' N a3 a2 a5 (hq.tr N.f (N _ _ _ (by omega))), fun z => absurd z (by decide)⟩) (fun z => absurd h1 z)
theorem sp9_bad {T : TH} {X : Int → Int} {n p k pl p' c : Int} {A A' : LA} {Q : Bool → TH → Prop} (hC : ClP X n A p k pl p' A') (hw : fwW A (X p) = c) (hc : c ≠ 0) (a3 : T 13 3 0 = p) (hq : EdR T k pl p' A' Q) : wp_X9_fails c T Q := by
  rcases hC with ⟨x, e1, e2⟩ | ⟨x, -⟩
  · exact sp9_fails (fun T2 F2 b7 b6 => hq.2 (by rw [e1]; exact x) T2 F2 (by rw [b7, e1, hw]) (by rw [b6, a3, e2]))
  · exact absurd (hw.symm.trans x) hc
theorem sp9_lPeople {T : TH} {X : Int → Int} {n p k pl p' : Int} {A A' : LA} {Q : Bool → TH → Prop} (hC : ClP X n A p k pl p' A') (e : X p = 116) (hT : TxM T X n) (a2 : T 13 2 0 = p + 1) (a3 : T 13 3 0 = p) (p0 : 0 ≤ p) (p1 : p < n) (hR : RfM T A) (hA : LAk A) (hq : EdR T k pl p' A' Q) : wp_X9_isPeopleLine T Q := by
  have hn := hT.2.1
  have n0 := hA.1.1
  have nR := nu_R X hn.2 (p := p + 1) (by omega)
  have en := nR.2.2.1 (by omega)
  unfold wp_X9_isPeopleLine
  rw [hR.1]
  refine ⟨by unfold zR; omega, fun z => ?_, fun z => sp9_bad hC (fw_t e (by omega)) (by decide) a3 hq⟩
  refine sp9_nu (Cl_t hC (fw_t0 e (by omega)) e) hT a2 (by omega) (by omega) (by unfold zR; omega) (by unfold zR; omega) hq (fun hK hE T1 N b3 b2 b5 hq1 => ?_)
  intro T3 h3
  rw [b5] at h3
  have F : F9 T1 T3 := fun o j i h => by rw [h3, up_ne (by omega)]
  refine sp9_end hE ((hT.fr N.f).fr F) (by rw [h3, up_ne (by omega), b2]) (by omega) en ?_ (hq1.tr F (by rw [h3, up_ne (by omega)]))
  rw [h3]
  exact RfM_j (Or.inl ⟨rfl, rfl⟩) (hR.n N)
theorem sp9_lHours {T : TH} {X : Int → Int} {n p k pl p' : Int} {A A' : LA} {Q : Bool → TH → Prop} (hC : ClP X n A p k pl p' A') (e : X p = 103) (nz : ¬ A 0 0 = 0) (hT : TxM T X n) (a2 : T 13 2 0 = p + 1) (a3 : T 13 3 0 = p) (p0 : 0 ≤ p) (p1 : p < n) (hR : RfM T A) (hA : LAk A) (hq : EdR T k pl p' A' Q) : wp_X9_isHoursLine T Q := by
  have hn := hT.2.1
  have n4 := hA.1.2.2.2.2.1
  have nR := nu_R X hn.2 (p := p + 1) (by omega)
  have en := nR.2.2.1 (by omega)
  unfold wp_X9_isHoursLine
  rw [hR.2.2.2.2.1]
  refine ⟨by unfold zR; omega, fun z => ?_, fun z => sp9_bad hC (by rw [fw_g e nz, if_neg (by omega)]) (by decide) a3 hq⟩
  refine sp9_nu (Cl_g hC (by rw [fw_g e nz, if_pos (by omega)]) e) hT a2 (by omega) (by omega) (by unfold zR; omega) (by unfold zR; omega) hq (fun hK hE T1 N b3 b2 b5 hq1 => ?_)
  intro T3 h3
  rw [b5] at h3
  have F : F9 T1 T3 := fun o j i h => by rw [h3, up_ne (by omega)]
  refine sp9_end hE ((hT.fr N.f).fr F) (by rw [h3, up_ne (by omega), b2]) (by omega) en ?_ (hq1.tr F (by rw [h3, up_ne (by omega)]))
  rw [h3]
  exact RfM_j (Or.inr (Or.inl ⟨rfl, rfl⟩)) (hR.n N)
theorem sp9_lBridge {T : TH} {X : Int → Int} {n p k pl p' : Int} {A A' : LA} {Q : Bool → TH → Prop} (hC : ClP X n A p k pl p' A') (e : X p = 98) (nz : ¬ A 0 0 = 0) (hT : TxM T X n) (a2 : T 13 2 0 = p + 1) (a3 : T 13 3 0 = p) (p0 : 0 ≤ p) (p1 : p < n) (hR : RfM T A) (hA : LAk A) (hq : EdR T k pl p' A' Q) : wp_X9_isBridgeLine T Q := by
  have hn := hT.2.1
  have n3 := hA.1.2.2.2.1
  have nR := nu_R X hn.2 (p := p + 1) (by omega)
  have en := nR.2.2.1 (by omega)
  unfold wp_X9_isBridgeLine
  rw [hR.2.2.2.1]
  refine ⟨by unfold zR; omega, fun z => ?_, fun z => sp9_bad hC (by rw [fw_b e nz, if_neg (by omega)]) (by decide) a3 hq⟩
  refine sp9_nu (Cl_b hC (by rw [fw_b e nz, if_pos (by omega)]) e) hT a2 (by omega) (by omega) (by unfold zR; omega) (by unfold zR; omega) hq (fun hK hE T1 N b3 b2 b5 hq1 => ?_)
  have R1 := hR.n N
  rw [R1.2.2.2.1, b5]
  refine ⟨n3.1, by omega, ?_⟩
  intro T3 h3 T4 h4
  have x3 : T3 13 14 0 = A 3 0 := by rw [h3, up_ne (by omega), R1.2.2.2.1]
  rw [x3, h3] at h4
  have F : F9 T1 T4 := fun o j i h => by rw [h4, up_ne (by omega), up_ne (by omega)]
  refine sp9_end hE ((hT.fr N.f).fr F) (by rw [h4, up_ne (by omega), up_ne (by omega), b2]) (by omega) en ?_ (hq1.tr F (by rw [h4, up_ne (by omega), up_ne (by omega)]))
  rw [h4]
  exact RfM_b R1
theorem sp9_lQuiet {T : TH} {X : Int → Int} {n p k pl p' : Int} {A A' : LA} {Q : Bool → TH → Prop} (hC : ClP X n A p k pl p' A') (e : X p = 109) (nz : ¬ A 0 0 = 0) (hT : TxM T X n) (a2 : T 13 2 0 = p + 1) (a3 : T 13 3 0 = p) (p0 : 0 ≤ p) (p1 : p < n) (hR : RfM T A) (hA : LAk A) (hq : EdR T k pl p' A' Q) : wp_X9_isQuietLine T Q := by
  have hn := hT.2.1
  have n0 := hA.1.1
  have m5 := hA.1.2.2.2.2.2.1
  have nR := nu_R X hn.2 (p := p + 1) (by omega)
  have en := nR.2.2.1 (by omega)
  unfold wp_X9_isQuietLine
  rw [hR.1]
  refine sp9_nu (Cl_m hC (fw_m e nz) e) hT a2 (by omega) (by omega) (by unfold zR; omega) (by unfold zR; omega) hq (fun hK hE T1 N b3 b2 b5 hq1 => ?_)
  have ok := nu_ok hK
  have R1 := hR.n N
  rw [R1.2.2.2.2.2.1, b5]
  refine sp9_has (ms_up m5 (by decide)) ok.2.1 (by omega) ?_
  rcases hE with ⟨g, k4, pla⟩ | ⟨g, hE⟩
  · refine ⟨fun z => absurd (z.symm.trans g) (by decide), fun _ => ?_⟩
    exact sp9_fails (fun T2 F2 b7 b6 => hq1.2 (by rw [k4]; decide) T2 F2 (by rw [b7, k4]) (by rw [b6, b3, pla]))
  · refine ⟨fun _ => ?_, fun z => absurd z g⟩
    intro T3 h3
    rw [R1.2.2.2.2.2.1, b5] at h3
    have F : F9 T1 T3 := fun o j i h => by rw [h3, up_ne (by omega)]
    refine sp9_end hE ((hT.fr N.f).fr F) (by rw [h3, up_ne (by omega), b2]) (by omega) en ?_ (hq1.tr F (by rw [h3, up_ne (by omega)]))
    rw [h3]
    exact RfM_j (Or.inr (Or.inr ⟨rfl, rfl⟩)) R1
theorem sp9_lKnown {T : TH} {X : Int → Int} {n p k pl p' : Int} {A A' : LA} {Q : Bool → TH → Prop} (hC : ClP X n A p k pl p' A') (e : X p = 107) (nz : ¬ A 0 0 = 0) (hT : TxM T X n) (a2 : T 13 2 0 = p + 1) (a3 : T 13 3 0 = p) (p0 : 0 ≤ p) (p1 : p < n) (hR : RfM T A) (hA : LAk A) (hq : EdR T k pl p' A' Q) : wp_X9_isKnownLine T Q := by
  have hn := hT.2.1
  have n0 := hA.1.1
  have n1 := hA.1.2.1
  have nR := nu_R X hn.2 (p := p + 1) (by omega)
  have en := nR.2.2.1 (by omega)
  have nR2 := nu_R X hn.2 (p := nuE X n (p + 1)) (by omega)
  have en2 := nR2.2.2.1 en
  have ev : zR ((2 : Int) ^ (A 0 0).toNat - 1) := ms7_R (by omega)
  unfold wp_X9_isKnownLine
  rw [hR.2.1]
  refine sp9_nu (Cl_k hC (fw_k e nz) e) hT a2 (by omega) (by omega) (by unfold zR; omega) (by unfold zR; omega) hq (fun hK hE T1 N b3 b2 b5 hq1 => ?_)
  have ok := nu_ok hK
  have R1 := hR.n N
  have hT1 := hT.fr N.f
  rw [b5]
  intro w hw
  rw [hw]
  have x3 := (R1.2.2.2.2.2.2.1 (nuV X n (p + 1)) ok.2.1 (by omega)).2.2.2
  have zx : zR (A 12 (nuV X n (p + 1))) := by
    rcases hA.2 (nuV X n (p + 1)) ok.2.1 (by omega) with y | y
    · rw [y]
      unfold zR
      omega
    · exact ms_R y (by omega)
  rw [x3, R1.1, evy_eq hA.1]
  refine ⟨by omega, by omega, zx, fun y => ?_, fun y => ?_⟩
  · rcases hE with ⟨g, -, -⟩ | ⟨-, hN⟩
    · exact absurd y g
    · refine sp9_nu hN hT1 b2 (by omega) en z0 ev hq1 (fun hK2 hE T4 N4 c3 c2 c5 hq2 => ?_)
      refine ⟨by omega, by omega, ?_⟩
      intro T6 h6
      rw [c5] at h6
      have F : F9 T4 T6 := fun o j i h => by rw [h6, up_ne (by omega)]
      refine sp9_end hE ((hT1.fr N4.f).fr F) (by rw [h6, up_ne (by omega), c2]) (by omega) en2 ?_ (hq2.tr F (by rw [h6, up_ne (by omega)]))
      rw [h6]
      exact RfM_k (R1.n N4)
  · rcases hE with ⟨g, k4, pla⟩ | ⟨g, -⟩
    · exact sp9_fails (fun T2 F2 b7 b6 => hq1.2 (by rw [k4]; decide) T2 F2 (by rw [b7, k4]) (by rw [b6, b3, pla]))
    · exact absurd y g
theorem sp9_lFact {T : TH} {X : Int → Int} {n p k pl p' : Int} {A A' : LA} {Q : Bool → TH → Prop} (hC : ClP X n A p k pl p' A') (e : X p = 102) (nz : ¬ A 0 0 = 0) (hT : TxM T X n) (a2 : T 13 2 0 = p + 1) (a3 : T 13 3 0 = p) (p0 : 0 ≤ p) (p1 : p < n) (hR : RfM T A) (hA : LAk A) (hq : EdR T k pl p' A' Q) : wp_X9_isFactLine T Q := by
  have hn := hT.2.1
  have n0 := hA.1.1
  have n1 := hA.1.2.1
  have nR := nu_R X hn.2 (p := p + 1) (by omega)
  have en := nR.2.2.1 (by omega)
  have nR2 := nu_R X hn.2 (p := nuE X n (p + 1)) (by omega)
  have en2 := nR2.2.2.1 en
  have nR3 := nu_R X hn.2 (p := nuE X n (nuE X n (p + 1))) (by omega)
  have en3 := nR3.2.2.1 en2
  have zf : zi false = 0 := rfl
  have zt : zi true = 1 := rfl
  unfold wp_X9_isFactLine
  rw [hR.2.1]
  refine ⟨by unfold zR; omega, fun z => ?_, fun z => sp9_bad hC (by rw [fw_f e nz, if_neg (by omega)]) (by decide) a3 hq⟩
  rintro _ rfl
  refine ⟨4, ?_⟩
  rw [h_X9_isFactLine_24]
  refine ⟨z0, fun y => absurd y (by decide), fun _ => ⟨z0, fun _ => ?_, fun y => absurd y (by decide)⟩⟩
  unfold b_X9_isFactLine_40
  refine ⟨z0, fun y => absurd rfl y, fun _ => ?_⟩
  unfold b_X9_isFactLine_64
  rw [zf, hR.1]
  refine sp9_nu (Cl_f hC (by rw [fw_f e nz, if_pos (by omega)]) e) hT a2 (by omega) (by omega) z0 (by unfold zR; omega) hq (fun hK hN T1 N b3 b2 b5 hq1 => ?_)
  refine ⟨by omega, by omega, ?_⟩
  intro T2 h2
  rw [b5, Int.add_zero] at h2
  have F2 : F9 T1 T2 := fun o j i h => by rw [h2, up_ne (by omega)]
  have hT2 := (hT.fr N.f).fr F2
  rw [h_X9_isFactLine_24]
  refine ⟨by unfold zR; omega, fun y => absurd y (by decide), fun _ => ⟨by unfold zR; omega, fun y => absurd rfl y, fun _ => ?_⟩⟩
  unfold b_X9_isFactLine_40
  refine ⟨by unfold zR; omega, fun _ => ⟨by unfold zR; omega, fun y => absurd rfl y, fun _ => ?_⟩, fun y => absurd y (by decide)⟩
  unfold b_X9_isFactLine_64
  rw [zt]
  refine sp9_nu hN hT2 (by rw [h2, up_ne (by omega), b2]) (by omega) en (by unfold zR; omega) (by unfold zR; omega) (hq1.tr F2 (by rw [h2, up_ne (by omega)])) (fun hK2 hN2 T3 N3 c3 c2 c5 hq3 => ?_)
  refine ⟨by omega, by omega, ?_⟩
  intro T4 h4
  rw [c5, show (0 : Int) + 1 = 1 from rfl] at h4
  have F4 : F9 T3 T4 := fun o j i h => by rw [h4, up_ne (by omega)]
  have hT4 := (hT2.fr N3.f).fr F4
  rw [h_X9_isFactLine_24]
  refine ⟨by unfold zR; omega, fun y => absurd y (by decide), fun _ => ⟨by unfold zR; omega, fun _ => ?_, fun y => absurd y (by decide)⟩⟩
  unfold b_X9_isFactLine_40
  refine ⟨by unfold zR; omega, fun _ => ⟨by unfold zR; omega, fun _ => ?_, fun y => absurd y (by decide)⟩, fun y => absurd y (by decide)⟩
  unfold b_X9_isFactLine_64
  rw [zf]
  refine sp9_nu hN2 hT4 (by rw [h4, up_ne (by omega), c2]) (by omega) en2 z0 (by unfold zR; omega) (hq3.tr F4 (by rw [h4, up_ne (by omega)])) (fun hK3 hE T5 N5 d3 d2 d5 hq5 => ?_)
  refine ⟨by omega, by omega, ?_⟩
  intro T6 h6
  rw [d5, show (0 : Int) + 1 + 1 = 2 from rfl] at h6
  rw [h_X9_isFactLine_24]
  refine ⟨by unfold zR; omega, fun _ => ⟨by omega, by omega, ?_⟩, fun y => absurd (by decide) y⟩
  intro T7 h7 T8 h8
  have e9 : T7 13 9 0 = A 1 0 := by rw [h7, up_ne (by omega), h6, up_ne (by omega), N5 _ _ _ (by omega), h4, up_ne (by omega), N3 _ _ _ (by omega), h2, up_ne (by omega), N _ _ _ (by omega), hR.2.1]
  rw [e9] at h8
  have F8 : F9 T5 T8 := fun o j i h => by rw [h8, up_ne (by omega), h7, up_ne (by omega), h6, up_ne (by omega)]
  refine sp9_end hE ((hT4.fr N5.f).fr F8) (by rw [h8, up_ne (by omega), h7, up_ne (by omega), h6, up_ne (by omega), d2]) (by omega) en3 ?_ (hq5.tr F8 (by rw [h8, up_ne (by omega), h7, up_ne (by omega), h6, up_ne (by omega)]))
  refine RfM_f hR (fun j i q1 q2 q3 => ?_) ?_ ?_ ?_ ?_ ?_
  · rw [h8, up_ne (by omega), h7, up_ne (by omega), h6, up_ne (by omega), N5 _ _ _ (by omega), h4, up_ne (by omega), N3 _ _ _ (by omega), h2, up_ne (by omega), N _ _ _ (by omega)]
  · rw [h8, up_eq]
  · rw [h8, up_ne (by omega), h7, up_ne (by omega), h6, up_ne (by omega), N5 _ _ _ (by omega), h4, up_ne (by omega), N3 _ _ _ (by omega), h2, up_eq]
  · rw [h8, up_ne (by omega), h7, up_ne (by omega), h6, up_ne (by omega), N5 _ _ _ (by omega), h4, up_eq]
  · rw [h8, up_ne (by omega), h7, up_ne (by omega), h6, up_eq]
  · rw [h8, up_ne (by omega), h7, up_eq]
theorem sp9_lPair {T : TH} {X : Int → Int} {n p k pl p' : Int} {A A' : LA} {Q : Bool → TH → Prop} (hC : ClP X n A p k pl p' A') (e : X p = 119) (nz : ¬ A 0 0 = 0) (hT : TxM T X n) (a2 : T 13 2 0 = p + 1) (a3 : T 13 3 0 = p) (p0 : 0 ≤ p) (p1 : p < n) (hR : RfM T A) (hA : LAk A) (hq : EdR T k pl p' A' Q) : wp_X9_isPairLine T Q := by
  have hn := hT.2.1
  have n0 := hA.1.1
  have n2 := hA.1.2.2.1
  have nR := nu_R X hn.2 (p := p + 1) (by omega)
  have en := nR.2.2.1 (by omega)
  have nR2 := nu_R X hn.2 (p := nuE X n (p + 1)) (by omega)
  have en2 := nR2.2.2.1 en
  unfold wp_X9_isPairLine
  rw [hR.2.2.1, hR.1]
  refine ⟨by unfold zR; omega, fun z => ?_, fun z => sp9_bad hC (by rw [fw_w e nz, if_neg (by omega)]) (by decide) a3 hq⟩
  refine sp9_nu (Cl_w hC (by rw [fw_w e nz, if_pos (by omega)]) e) hT a2 (by omega) (by omega) z0 (by unfold zR; omega) hq (fun hK hN T1 N b3 b2 b5 hq1 => ?_)
  have ok := nu_ok hK
  have R1 := hR.n N
  have hT1 := hT.fr N.f
  rw [b5, R1.1]
  intro w hw
  rw [hw]
  refine sp9_nu hN hT1 b2 (by omega) en z0 (by unfold zR; omega) hq1 (fun hK2 hE T4 N4 c3 c2 c5 hq4 => ?_)
  have ok2 := nu_ok hK2
  have R4 := R1.n N4
  have hT4 := hT1.fr N4.f
  have out : ∀ y : Bool, y = (decide (nuV X n (p + 1) = nuV X n (nuE X n (p + 1))) || frB A (nuV X n (p + 1)) (nuV X n (nuE X n (p + 1)))) → (y = false → (0 ≤ (2 * (T4 13 11 0)) ∧ (2 * (T4 13 11 0)) < 24 ∧ ∀ T1 : TH, T1 = up T4 13 12 (2 * (T4 13 11 0)) (nuV X n (p + 1)) → 0 ≤ ((2 * (T1 13 11 0)) + 1) ∧ ((2 * (T1 13 11 0)) + 1) < 24 ∧ ∀ T2 : TH, T2 = up T1 13 12 ((2 * (T1 13 11 0)) + 1) (T1 13 5 0) → ∀ T3 : TH, T3 = up T2 13 11 0 ((T2 13 11 0) + 1) → wp_X9_isEnd T3 (fun p5 T4 => Q p5 T4))) ∧ (y = true → (wp_X9_fails 4 T4 (fun p7 T6 => Q p7 T6))) := by
    intro y hy
    refine ⟨fun yf => ?_, fun yt => ?_⟩
    · rw [hy, Bool.or_eq_false_iff] at yf
      rcases hE with ⟨g, -, -⟩ | ⟨-, hE⟩
      · rcases g with g | g
        · exact absurd g (of_decide_eq_false yf.1)
        · exact absurd (yf.2.symm.trans g) (by decide)
      · rw [R4.2.2.1]
        refine ⟨by omega, by omega, ?_⟩
        intro T5 h5
        have x5 : T5 13 11 0 = A 2 0 := by rw [h5, up_ne (by omega), R4.2.2.1]
        have y5 : T5 13 5 0 = nuV X n (nuE X n (p + 1)) := by rw [h5, up_ne (by omega), c5]
        rw [x5, y5]
        refine ⟨by omega, by omega, ?_⟩
        intro T6 h6 T7 h7
        have x6 : T6 13 11 0 = A 2 0 := by rw [h6, up_ne (by omega), x5]
        rw [x6, h6, h5] at h7
        have F : F9 T4 T7 := fun o j i h => by rw [h7, up_ne (by omega), up_ne (by omega), up_ne (by omega)]
        refine sp9_end hE (hT4.fr F) (by rw [h7, up_ne (by omega), up_ne (by omega), up_ne (by omega), c2]) (by omega) en2 ?_ (hq4.tr F (by rw [h7, up_ne (by omega), up_ne (by omega), up_ne (by omega)]))
        rw [h7]
        exact RfM_w n2.1 R4
    · rw [hy, Bool.or_eq_true] at yt
      rcases hE with ⟨g, k4, pla⟩ | ⟨g, -⟩
      · exact sp9_fails (fun T2 F2 b7 b6 => hq4.2 (by rw [k4]; decide) T2 F2 (by rw [b7, k4]) (by rw [b6, c3, pla]))
      · exact absurd (yt.imp of_decide_eq_true id) g
  have key : ∀ (d i : Nat) (y : Bool), i + d = (A 2 0).toNat → y = (decide (nuV X n (p + 1) = nuV X n (nuE X n (p + 1))) || anyZ (fun k => decide ((A 9 k = nuV X n (p + 1) ∧ A 10 k = nuV X n (nuE X n (p + 1))) ∨ (A 10 k = nuV X n (p + 1) ∧ A 9 k = nuV X n (nuE X n (p + 1))))) i) → h_X9_isPairLine_68 Q (d + 1) (nuV X n (p + 1)) y i T4 := by
    intro d
    induction d with
    | zero =>
      intro i y hi hy
      have hi' : i = (A 2 0).toNat := by omega
      rw [hi'] at hy
      have o := out y hy
      rw [h_X9_isPairLine_68]
      refine ⟨by unfold zR; omega, by rw [R4.2.2.1]; unfold zR; omega, fun _ => o, fun h => absurd (by rw [R4.2.2.1]; omega) h⟩
    | succ d ih =>
      intro i y hi hy
      obtain ⟨x9, x10⟩ := R4.2.2.2.2.2.2.2.1 i (by omega) (by omega)
      obtain ⟨r9, r10, r11⟩ := hA.1.2.2.2.2.2.2.2.1 i (by omega) (by omega)
      have nxt := fun y' => ih (i + 1) y' (by omega)
      rw [anyZ] at nxt
      rw [h_X9_isPairLine_68]
      refine ⟨by unfold zR; omega, by rw [R4.2.2.1]; unfold zR; omega, fun h => absurd h (by rw [R4.2.2.1]; omega), fun _ => ⟨by omega, by omega, ?_⟩⟩
      intro w8 h8
      refine ⟨by omega, by omega, ?_⟩
      intro w9 h9
      rw [x9] at h8
      rw [x10] at h9
      rw [h8, h9]
      have yes : (y = true ∨ (A 9 i = nuV X n (p + 1) ∧ A 10 i = nuV X n (nuE X n (p + 1))) ∨ (A 10 i = nuV X n (p + 1) ∧ A 9 i = nuV X n (nuE X n (p + 1)))) → b_X9_isPairLine_132 Q (h_X9_isPairLine_68 Q (d + 1)) (nuV X n (p + 1)) i T4 := by
        intro h
        refine nxt true ?_
        rcases h with h | h
        · rw [h] at hy
          rw [← Bool.or_assoc, ← hy]
          rfl
        · rw [decide_eq_true h, Bool.or_true, Bool.or_true]
      have no : y = false → ¬ ((A 9 i = nuV X n (p + 1) ∧ A 10 i = nuV X n (nuE X n (p + 1))) ∨ (A 10 i = nuV X n (p + 1) ∧ A 9 i = nuV X n (nuE X n (p + 1)))) → b_X9_isPairLine_136 Q (h_X9_isPairLine_68 Q (d + 1)) (nuV X n (p + 1)) i T4 := by
        intro h h2
        refine nxt false ?_
        rw [h] at hy
        rw [← Bool.or_assoc, ← hy, decide_eq_false h2]
        rfl
      refine ⟨fun h => yes (Or.inl h), fun h => ?_⟩
      have b117 : ¬ (A 9 i = nuV X n (p + 1) ∧ A 10 i = nuV X n (nuE X n (p + 1))) → b_X9_isPairLine_117 Q (h_X9_isPairLine_68 Q (d + 1)) (nuV X n (p + 1)) i (A 9 i) (A 10 i) T4 := by
        intro g
        unfold b_X9_isPairLine_117
        rw [c5]
        exact ⟨by unfold zR; omega, by unfold zR; omega, fun g2 => no h (by omega), fun g2 => ⟨by unfold zR; omega, by unfold zR; omega, fun g3 => no h (by omega), fun g3 => yes (Or.inr (Or.inr ⟨g2, g3⟩))⟩⟩
      rw [c5]
      exact ⟨by unfold zR; omega, by unfold zR; omega, fun g => b117 (fun w => g w.1), fun g => ⟨by unfold zR; omega, by unfold zR; omega, fun g2 => yes (Or.inr (Or.inl ⟨g, g2⟩)), fun g2 => b117 (fun w => g2 w.2)⟩⟩
  have go : ∀ y : Bool, y = decide (nuV X n (p + 1) = nuV X n (nuE X n (p + 1))) → b_X9_isPairLine_65 Q (nuV X n (p + 1)) y T4 := by
    intro y hy
    unfold b_X9_isPairLine_65
    refine ⟨(A 2 0).toNat + 1, key (A 2 0).toNat 0 y (by omega) ?_⟩
    rw [anyZ, Bool.or_false, hy]
  rw [c5]
  exact ⟨by unfold zR; omega, by unfold zR; omega, fun g => go _ (decide_eq_false g).symm, fun g => go _ (decide_eq_true g).symm⟩
