/-! a clause: what it is -/
def setA (A : LA) (j : Nat) (i v : Int) : LA := fun j' i' => if j' = j ∧ i' = i then v else A j' i'
theorem setA_hit (A : LA) (j : Nat) (i v : Int) : setA A j i v j i = v := if_pos ⟨rfl, rfl⟩
theorem setA_ne {A : LA} {j j' : Nat} {i i' v : Int} (h : ¬ (j' = j ∧ i' = i)) : setA A j i v j' i' = A j' i' := if_neg h
def adF (A : LA) (p g l : Int) : LA := setA (setA (setA (setA (setA A 6 (A 1 0) p) 7 (A 1 0) g) 8 (A 1 0) l) 12 (A 1 0) (-1)) 1 0 (A 1 0 + 1)
def adP (A : LA) (a b : Int) : LA := setA (setA (setA A 9 (A 2 0) a) 10 (A 2 0) b) 2 0 (A 2 0 + 1)
def adB (A : LA) (v : Int) : LA := setA (setA A 11 (A 3 0) v) 3 0 (A 3 0 + 1)
def fwW (A : LA) (w : Int) : Int := if A 0 0 = 0 then (if w = 116 then 0 else 1) else if w = 116 then 3 else if w = 102 then (if A 1 0 < 8 then 0 else 3) else if w = 119 then (if A 2 0 < 12 then 0 else 3) else if w = 98 then (if A 3 0 < 4 then 0 else 3) else if w = 103 then (if A 4 0 = 0 then 0 else 3) else if w = 107 then 0 else if w = 109 then 0 else 1
def NuP (X : Int → Int) (n lo hi p k pl : Int) (F : Int → Int → Int → Prop) : Prop := (nuK X n lo hi p ≠ 0 ∧ k = nuK X n lo hi p ∧ pl = skS X n p) ∨ (nuK X n lo hi p = 0 ∧ F (nuV X n p) (nuE X n p) (skS X n p))
def EnP (X : Int → Int) (n e : Int) (A1 : LA) (k pl p' : Int) (A' : LA) : Prop := ((skS X n e < n ∧ X (skS X n e) = 59) ∧ k = 0 ∧ p' = skS X n e + 1 ∧ A' = A1) ∨ (¬ (skS X n e < n ∧ X (skS X n e) = 59) ∧ k = 1 ∧ pl = skS X n e)
def AgP (g : Prop) (a k pl : Int) (F : Prop) : Prop := (g ∧ k = 4 ∧ pl = a) ∨ (¬ g ∧ F)
def BoP (X : Int → Int) (n : Int) (A : LA) (p k pl p' : Int) (A' : LA) : Prop :=
  (X p = 116 ∧ NuP X n 1 7 (p + 1) k pl (fun v e _ => EnP X n e (setA A 0 0 v) k pl p' A')) ∨
  (X p = 102 ∧ NuP X n 0 (A 0 0 - 1) (p + 1) k pl (fun v1 e1 _ => NuP X n 1 9 e1 k pl (fun v2 e2 _ => NuP X n 0 1 e2 k pl (fun v3 e3 _ => EnP X n e3 (adF A v1 v2 v3) k pl p' A')))) ∨
  (X p = 107 ∧ NuP X n 0 (A 1 0 - 1) (p + 1) k pl (fun f e1 a1 => AgP (A 12 f ≠ -1) a1 k pl (NuP X n 0 ((2 : Int) ^ (A 0 0).toNat - 1) e1 k pl (fun v e2 _ => EnP X n e2 (setA A 12 f v) k pl p' A')))) ∨
  (X p = 119 ∧ NuP X n 0 (A 0 0 - 1) (p + 1) k pl (fun a e1 _ => NuP X n 0 (A 0 0 - 1) e1 k pl (fun b e2 a2 => AgP (a = b ∨ frB A a b = true) a2 k pl (EnP X n e2 (adP A a b) k pl p' A')))) ∨
  (X p = 109 ∧ NuP X n 0 (A 0 0 - 1) (p + 1) k pl (fun v e a1 => AgP (bt (A 5 0) v = true) a1 k pl (EnP X n e (setA A 5 0 (zor (A 5 0) (zshl 1 v))) k pl p' A'))) ∨
  (X p = 98 ∧ NuP X n 0 999 (p + 1) k pl (fun v e _ => EnP X n e (adB A v) k pl p' A')) ∨
  (X p = 103 ∧ NuP X n 1 99 (p + 1) k pl (fun v e _ => EnP X n e (setA A 4 0 v) k pl p' A'))
def ClP (X : Int → Int) (n : Int) (A : LA) (p k pl p' : Int) (A' : LA) : Prop := (fwW A (X p) ≠ 0 ∧ k = fwW A (X p) ∧ pl = p) ∨ (fwW A (X p) = 0 ∧ BoP X n A p k pl p' A')
/-! the class's land while it is read -/
def LAk (A : LA) : Prop := LAok A ∧ ∀ f, 0 ≤ f → f < A 1 0 → A 12 f = -1 ∨ ms (A 0 0).toNat (A 12 f)
def LdC (T : TH) (o : Nat) (A : LA) : Prop := T o 0 0 = A 0 0 ∧ T o 1 0 = A 1 0 ∧ T o 2 0 = A 2 0 ∧ T o 3 0 = A 3 0 ∧ T o 4 0 = A 4 0 ∧ T o 5 0 = A 5 0 ∧
  (ms 8 (T o 6 0) ∧ ∀ f, 0 ≤ f → f < 8 → bt (T o 6 0) f = decide (f < A 1 0 ∧ A 8 f = 1)) ∧
  (∀ f, 0 ≤ f → f < A 1 0 → T o 8 f = A 6 f ∧ T o 9 f = A 7 f) ∧
  (∀ p, 0 ≤ p → p < 7 → ms 8 (T o 11 p) ∧ ∀ f, 0 ≤ f → f < 8 → bt (T o 11 p) f = decide (f < A 1 0 ∧ A 6 f = p)) ∧
  (∀ p, 0 ≤ p → p < 7 → ms 7 (T o 12 p) ∧ ∀ q, 0 ≤ q → q < 7 → bt (T o 12 p) q = frB A p q) ∧
  (∀ k, 0 ≤ k → k < A 2 0 → T o 13 k = A 9 k ∧ T o 14 k = A 10 k) ∧
  (∀ b, 0 ≤ b → b < A 3 0 → T o 15 b = A 11 b) ∧
  (ms 8 (T o 7 0) ∧ ∀ f, 0 ≤ f → f < 8 → bt (T o 7 0) f = decide (f < A 1 0 ∧ A 12 f ≠ -1)) ∧
  (∀ f, 0 ≤ f → f < 8 → T o 10 f = if f < A 1 0 ∧ A 12 f ≠ -1 then A 12 f else 0)
theorem LdC.eq {T T' : TH} {o : Nat} {A : LA} (H : LdC T o A) (e : ∀ j i, T' o j i = T o j i) : LdC T' o A := by
  unfold LdC
  simp only [e]
  exact H
theorem LdC.land {T : TH} {o : Nat} {A : LA} (hA : LAok A) (H : LdC T o A) : LandC T o A := by
  obtain ⟨h0, h1, h2, h3, h4, h5, h6, h7, h8, h9, h10, h11, h12, h13⟩ := H
  have n0 := hA.1
  have n1 := hA.2.1
  refine ⟨h0, h1, h2, h3, h4, h5, ⟨h6.1, fun f f0 f1 => ?_⟩, h7, fun p p0 p1 => h8 p p0 (by omega), fun p p0 p1 => h9 p p0 (by omega), h10, h11⟩
  rw [h6.2 f f0 (by omega)]
  exact decide_eq_decide.mpr ⟨fun z => z.2, fun z => ⟨f1, z⟩⟩
theorem anyZ_cg {f g : Int → Bool} : ∀ {n : Nat}, (∀ i : Int, 0 ≤ i → i < n → f i = g i) → anyZ f n = anyZ g n
  | 0, _ => rfl
  | n + 1, h => by
    rw [anyZ, anyZ, anyZ_cg (fun i h0 h1 => h i h0 (by omega)), h n (by omega) (by omega)]
theorem frB_cg {A A' : LA} (h2 : A' 2 0 = A 2 0) (h : ∀ k, 0 ≤ k → k < A 2 0 → A' 9 k = A 9 k ∧ A' 10 k = A 10 k) (p q : Int) : frB A' p q = frB A p q := by
  unfold frB
  rw [h2]
  refine anyZ_cg (fun i i0 i1 => ?_)
  obtain ⟨e1, e2⟩ := h i i0 (by omega)
  rw [e1, e2]
theorem frB_ad {A : LA} (hA : LAok A) (a b p q : Int) : frB (adP A a b) p q = (frB A p q || decide ((a = p ∧ b = q) ∨ (b = p ∧ a = q))) := by
  have n2 := hA.2.2.1
  have e2 : adP A a b 2 0 = A 2 0 + 1 := setA_hit _ _ _ _
  have f9 : ∀ k, k ≠ A 2 0 → adP A a b 9 k = A 9 k ∧ adP A a b 10 k = A 10 k := fun k hk => by
    unfold adP
    rw [setA_ne (by omega), setA_ne (by omega), setA_ne (by omega), setA_ne (by omega), setA_ne (by omega), setA_ne (by omega)]
    exact ⟨rfl, rfl⟩
  have g9 : adP A a b 9 (A 2 0) = a := by
    unfold adP
    rw [setA_ne (by omega), setA_ne (by omega), setA_hit]
  have g10 : adP A a b 10 (A 2 0) = b := by
    unfold adP
    rw [setA_ne (by omega), setA_hit]
  unfold frB
  rw [e2, show (A 2 0 + 1).toNat = (A 2 0).toNat + 1 by omega, anyZ, show (((A 2 0).toNat : Nat) : Int) = A 2 0 by omega, g9, g10]
  congr 1
  refine anyZ_cg (fun i i0 i1 => ?_)
  rw [(f9 i (by omega)).1, (f9 i (by omega)).2]
/-! what is kept when a land is told on -/
theorem LAk_t {A : LA} (h : LAk A) (z : A 0 0 = 0) {v : Int} (v0 : 1 ≤ v) (v1 : v ≤ 7) : LAk (setA A 0 0 v) ∧ A 1 0 = 0 ∧ A 2 0 = 0 := by
  obtain ⟨⟨h0, h1, h2, h3, h4, h5, h6, h7, h8⟩, h9⟩ := h
  have e1 : A 1 0 = 0 := by
    by_cases e : A 1 0 = 0
    · exact e
    · have := (h6 0 (Int.le_refl 0) (by omega)).1
      omega
  have e2 : A 2 0 = 0 := by
    by_cases e : A 2 0 = 0
    · exact e
    · have := (h7 0 (Int.le_refl 0) (by omega)).1
      omega
  have s : ∀ (j : Nat) (i : Int), j ≠ 0 → setA A 0 0 v j i = A j i := fun j i hj => setA_ne (by omega)
  have s0 : setA A 0 0 v 0 0 = v := setA_hit _ _ _ _
  refine ⟨⟨?_, ?_⟩, e1, e2⟩
  · refine ⟨by rw [s0]; omega, by rw [s 1 0 (by decide)]; exact h1, by rw [s 2 0 (by decide)]; exact h2, by rw [s 3 0 (by decide)]; exact h3, by rw [s 4 0 (by decide)]; exact h4, by rw [s 5 0 (by decide)]; exact h5, fun f f0 f1 => ?_, fun f f0 f1 => ?_, fun f f0 f1 => ?_⟩
    · rw [s 1 0 (by decide)] at f1
      omega
    · rw [s 2 0 (by decide)] at f1
      omega
    · rw [s 3 0 (by decide)] at f1
      rw [s 11 f (by decide)]
      exact h8 f f0 f1
  · intro f f0 f1
    rw [s 1 0 (by decide)] at f1
    omega
theorem LAk_j {A : LA} (h : LAk A) {j : Nat} {v : Int} (hj : (j = 4 ∧ 1 ≤ v ∧ v ≤ 99) ∨ (j = 5 ∧ ms 7 v)) : LAk (setA A j 0 v) := by
  obtain ⟨⟨h0, h1, h2, h3, h4, h5, h6, h7, h8⟩, h9⟩ := h
  have s : ∀ (j' : Nat) (i : Int), j' ≠ j → setA A j 0 v j' i = A j' i := fun j' i hj' => setA_ne (fun z => hj' z.1)
  have hjn : j ≠ 0 ∧ j ≠ 1 ∧ j ≠ 2 ∧ j ≠ 3 ∧ j ≠ 6 ∧ j ≠ 7 ∧ j ≠ 8 ∧ j ≠ 9 ∧ j ≠ 10 ∧ j ≠ 11 ∧ j ≠ 12 := by
    rcases hj with z | z <;> omega
  refine ⟨⟨by rw [s 0 0 (by omega)]; exact h0, by rw [s 1 0 (by omega)]; exact h1, by rw [s 2 0 (by omega)]; exact h2, by rw [s 3 0 (by omega)]; exact h3, ?_, ?_, fun f f0 f1 => ?_, fun f f0 f1 => ?_, fun f f0 f1 => ?_⟩, fun f f0 f1 => ?_⟩
  · rcases hj with ⟨rfl, z1, z2⟩ | ⟨rfl, z⟩
    · rw [setA_hit]
      omega
    · rw [s 4 0 (by omega)]
      exact h4
  · rcases hj with ⟨rfl, z1, z2⟩ | ⟨rfl, z⟩
    · rw [s 5 0 (by omega)]
      exact h5
    · rw [setA_hit]
      exact z
  · rw [s 1 0 (by omega)] at f1
    rw [s 6 f (by omega), s 7 f (by omega), s 8 f (by omega), s 0 0 (by omega)]
    exact h6 f f0 f1
  · rw [s 2 0 (by omega)] at f1
    rw [s 9 f (by omega), s 10 f (by omega), s 0 0 (by omega)]
    exact h7 f f0 f1
  · rw [s 3 0 (by omega)] at f1
    rw [s 11 f (by omega)]
    exact h8 f f0 f1
  · rw [s 1 0 (by omega)] at f1
    rw [s 12 f (by omega), s 0 0 (by omega)]
    exact h9 f f0 f1
theorem LAk_k {A : LA} (h : LAk A) {f v : Int} (hv : ms (A 0 0).toNat v) : LAk (setA A 12 f v) := by
  obtain ⟨⟨h0, h1, h2, h3, h4, h5, h6, h7, h8⟩, h9⟩ := h
  have s : ∀ (j' : Nat) (i : Int), j' ≠ 12 → setA A 12 f v j' i = A j' i := fun j' i hj' => setA_ne (fun z => hj' z.1)
  refine ⟨⟨by rw [s 0 0 (by omega)]; exact h0, by rw [s 1 0 (by omega)]; exact h1, by rw [s 2 0 (by omega)]; exact h2, by rw [s 3 0 (by omega)]; exact h3, by rw [s 4 0 (by omega)]; exact h4, by rw [s 5 0 (by omega)]; exact h5, fun f f0 f1 => ?_, fun f f0 f1 => ?_, fun f f0 f1 => ?_⟩, fun g g0 g1 => ?_⟩
  · rw [s 1 0 (by omega)] at f1
    rw [s 6 f (by omega), s 7 f (by omega), s 8 f (by omega), s 0 0 (by omega)]
    exact h6 f f0 f1
  · rw [s 2 0 (by omega)] at f1
    rw [s 9 f (by omega), s 10 f (by omega), s 0 0 (by omega)]
    exact h7 f f0 f1
  · rw [s 3 0 (by omega)] at f1
    rw [s 11 f (by omega)]
    exact h8 f f0 f1
  · rw [s 1 0 (by omega)] at g1
    rw [s 0 0 (by omega)]
    by_cases e : g = f
    · subst e
      rw [setA_hit]
      exact Or.inr hv
    · rw [setA_ne (by omega)]
      exact h9 g g0 g1
theorem adF_j {A : LA} {p g l : Int} : (∀ (j : Nat) (i : Int), ¬ (j = 1 ∧ i = 0) → ¬ ((j = 6 ∨ j = 7 ∨ j = 8 ∨ j = 12) ∧ i = A 1 0) → adF A p g l j i = A j i) ∧ adF A p g l 1 0 = A 1 0 + 1 ∧ adF A p g l 6 (A 1 0) = p ∧ adF A p g l 7 (A 1 0) = g ∧ adF A p g l 8 (A 1 0) = l ∧ adF A p g l 12 (A 1 0) = -1 := by
  unfold adF
  refine ⟨fun j i h1 h2 => ?_, setA_hit _ _ _ _, ?_, ?_, ?_, ?_⟩
  · rw [setA_ne (by omega), setA_ne (by omega), setA_ne (by omega), setA_ne (by omega), setA_ne (by omega)]
  · rw [setA_ne (by omega), setA_ne (by omega), setA_ne (by omega), setA_ne (by omega), setA_hit]
  · rw [setA_ne (by omega), setA_ne (by omega), setA_ne (by omega), setA_hit]
  · rw [setA_ne (by omega), setA_ne (by omega), setA_hit]
  · rw [setA_ne (by omega), setA_hit]
theorem LAk_f {A : LA} (h : LAk A) (hm : A 1 0 < 8) {p g l : Int} (p0 : 0 ≤ p) (p1 : p < A 0 0) (g0 : 1 ≤ g) (g1 : g ≤ 9) (l0 : 0 ≤ l) (l1 : l ≤ 1) : LAk (adF A p g l) := by
  obtain ⟨⟨h0, h1, h2, h3, h4, h5, h6, h7, h8⟩, h9⟩ := h
  obtain ⟨s, s1, s6, s7, s8, s12⟩ := adF_j (A := A) (p := p) (g := g) (l := l)
  refine ⟨⟨by rw [s 0 0 (by omega) (by omega)]; exact h0, by rw [s1]; omega, by rw [s 2 0 (by omega) (by omega)]; exact h2, by rw [s 3 0 (by omega) (by omega)]; exact h3, by rw [s 4 0 (by omega) (by omega)]; exact h4, by rw [s 5 0 (by omega) (by omega)]; exact h5, fun f f0 f1 => ?_, fun f f0 f1 => ?_, fun f f0 f1 => ?_⟩, fun f f0 f1 => ?_⟩
  · rw [s1] at f1
    rw [s 0 0 (by omega) (by omega)]
    by_cases e : f = A 1 0
    · subst e
      rw [s6, s7, s8]
      omega
    · rw [s 6 f (by omega) (by omega), s 7 f (by omega) (by omega), s 8 f (by omega) (by omega)]
      exact h6 f f0 (by omega)
  · rw [s 2 0 (by omega) (by omega)] at f1
    rw [s 9 f (by omega) (by omega), s 10 f (by omega) (by omega), s 0 0 (by omega) (by omega)]
    exact h7 f f0 f1
  · rw [s 3 0 (by omega) (by omega)] at f1
    rw [s 11 f (by omega) (by omega)]
    exact h8 f f0 f1
  · rw [s1] at f1
    rw [s 0 0 (by omega) (by omega)]
    by_cases e : f = A 1 0
    · subst e
      exact Or.inl s12
    · rw [s 12 f (by omega) (by omega)]
      exact h9 f f0 (by omega)
theorem adP_j {A : LA} {a b : Int} : (∀ (j : Nat) (i : Int), ¬ (j = 2 ∧ i = 0) → ¬ ((j = 9 ∨ j = 10) ∧ i = A 2 0) → adP A a b j i = A j i) ∧ adP A a b 2 0 = A 2 0 + 1 ∧ adP A a b 9 (A 2 0) = a ∧ adP A a b 10 (A 2 0) = b := by
  unfold adP
  refine ⟨fun j i h1 h2 => ?_, setA_hit _ _ _ _, ?_, ?_⟩
  · rw [setA_ne (by omega), setA_ne (by omega), setA_ne (by omega)]
  · rw [setA_ne (by omega), setA_ne (by omega), setA_hit]
  · rw [setA_ne (by omega), setA_hit]
theorem LAk_w {A : LA} (h : LAk A) (hm : A 2 0 < 12) {a b : Int} (a0 : 0 ≤ a) (a1 : a < A 0 0) (b0 : 0 ≤ b) (b1 : b < A 0 0) (ab : a ≠ b) : LAk (adP A a b) := by
  obtain ⟨⟨h0, h1, h2, h3, h4, h5, h6, h7, h8⟩, h9⟩ := h
  obtain ⟨s, s2, s9, s10⟩ := adP_j (A := A) (a := a) (b := b)
  refine ⟨⟨by rw [s 0 0 (by omega) (by omega)]; exact h0, by rw [s 1 0 (by omega) (by omega)]; exact h1, by rw [s2]; omega, by rw [s 3 0 (by omega) (by omega)]; exact h3, by rw [s 4 0 (by omega) (by omega)]; exact h4, by rw [s 5 0 (by omega) (by omega)]; exact h5, fun f f0 f1 => ?_, fun f f0 f1 => ?_, fun f f0 f1 => ?_⟩, fun f f0 f1 => ?_⟩
  · rw [s 1 0 (by omega) (by omega)] at f1
    rw [s 6 f (by omega) (by omega), s 7 f (by omega) (by omega), s 8 f (by omega) (by omega), s 0 0 (by omega) (by omega)]
    exact h6 f f0 f1
  · rw [s2] at f1
    rw [s 0 0 (by omega) (by omega)]
    by_cases e : f = A 2 0
    · subst e
      rw [s9, s10]
      omega
    · rw [s 9 f (by omega) (by omega), s 10 f (by omega) (by omega)]
      exact h7 f f0 (by omega)
  · rw [s 3 0 (by omega) (by omega)] at f1
    rw [s 11 f (by omega) (by omega)]
    exact h8 f f0 f1
  · rw [s 1 0 (by omega) (by omega)] at f1
    rw [s 12 f (by omega) (by omega), s 0 0 (by omega) (by omega)]
    exact h9 f f0 f1
theorem adB_j {A : LA} {v : Int} : (∀ (j : Nat) (i : Int), ¬ (j = 3 ∧ i = 0) → ¬ (j = 11 ∧ i = A 3 0) → adB A v j i = A j i) ∧ adB A v 3 0 = A 3 0 + 1 ∧ adB A v 11 (A 3 0) = v := by
  unfold adB
  refine ⟨fun j i h1 h2 => ?_, setA_hit _ _ _ _, ?_⟩
  · rw [setA_ne (by omega), setA_ne (by omega)]
  · rw [setA_ne (by omega), setA_hit]
theorem LAk_b {A : LA} (h : LAk A) (hm : A 3 0 < 4) {v : Int} (v0 : 0 ≤ v) (v1 : v ≤ 999) : LAk (adB A v) := by
  obtain ⟨⟨h0, h1, h2, h3, h4, h5, h6, h7, h8⟩, h9⟩ := h
  obtain ⟨s, s3, s11⟩ := adB_j (A := A) (v := v)
  refine ⟨⟨by rw [s 0 0 (by omega) (by omega)]; exact h0, by rw [s 1 0 (by omega) (by omega)]; exact h1, by rw [s 2 0 (by omega) (by omega)]; exact h2, by rw [s3]; omega, by rw [s 4 0 (by omega) (by omega)]; exact h4, by rw [s 5 0 (by omega) (by omega)]; exact h5, fun f f0 f1 => ?_, fun f f0 f1 => ?_, fun f f0 f1 => ?_⟩, fun f f0 f1 => ?_⟩
  · rw [s 1 0 (by omega) (by omega)] at f1
    rw [s 6 f (by omega) (by omega), s 7 f (by omega) (by omega), s 8 f (by omega) (by omega), s 0 0 (by omega) (by omega)]
    exact h6 f f0 f1
  · rw [s 2 0 (by omega) (by omega)] at f1
    rw [s 9 f (by omega) (by omega), s 10 f (by omega) (by omega), s 0 0 (by omega) (by omega)]
    exact h7 f f0 f1
  · rw [s3] at f1
    by_cases e : f = A 3 0
    · subst e
      rw [s11]
      omega
    · rw [s 11 f (by omega) (by omega)]
      exact h8 f f0 (by omega)
  · rw [s 1 0 (by omega) (by omega)] at f1
    rw [s 12 f (by omega) (by omega), s 0 0 (by omega) (by omega)]
    exact h9 f f0 f1
