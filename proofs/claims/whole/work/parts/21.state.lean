/-! what a land is, who has what since when; how class and reference hold them -/
abbrev LA : Type := Nat → Int → Int
abbrev HA : Type := Nat → Int → Int → Int
def anyZ (g : Int → Bool) : Nat → Bool
  | 0 => false
  | n + 1 => anyZ g n || g n
theorem anyZ_iff {g : Int → Bool} : ∀ {n : Nat}, anyZ g n = true ↔ ∃ i : Int, 0 ≤ i ∧ i < n ∧ g i = true
  | 0 => ⟨fun h => by simp [anyZ] at h, fun h => by obtain ⟨i, h0, h1, -⟩ := h; omega⟩
  | n + 1 => by
    rw [anyZ, Bool.or_eq_true, anyZ_iff]
    constructor
    · rintro (⟨i, h0, h1, h2⟩ | h)
      · exact ⟨i, h0, by omega, h2⟩
      · exact ⟨n, by omega, by omega, h⟩
    · rintro ⟨i, h0, h1, h2⟩
      by_cases e : i = n
      · subst e; exact Or.inr h2
      · exact Or.inl ⟨i, h0, by omega, h2⟩
def frB (A : LA) (p q : Int) : Bool := anyZ (fun k => decide ((A 9 k = p ∧ A 10 k = q) ∨ (A 10 k = p ∧ A 9 k = q))) (A 2 0).toNat
def LAok (A : LA) : Prop := (0 ≤ A 0 0 ∧ A 0 0 ≤ 7) ∧ (0 ≤ A 1 0 ∧ A 1 0 ≤ 8) ∧ (0 ≤ A 2 0 ∧ A 2 0 ≤ 12) ∧ (0 ≤ A 3 0 ∧ A 3 0 ≤ 4) ∧ (0 ≤ A 4 0 ∧ A 4 0 ≤ 99) ∧ ms 7 (A 5 0) ∧
  (∀ f, 0 ≤ f → f < A 1 0 → (0 ≤ A 6 f ∧ A 6 f < A 0 0) ∧ (1 ≤ A 7 f ∧ A 7 f ≤ 9) ∧ (A 8 f = 0 ∨ A 8 f = 1)) ∧
  (∀ k, 0 ≤ k → k < A 2 0 → (0 ≤ A 9 k ∧ A 9 k < A 0 0) ∧ (0 ≤ A 10 k ∧ A 10 k < A 0 0) ∧ A 9 k ≠ A 10 k) ∧
  (∀ b, 0 ≤ b → b < A 3 0 → 0 ≤ A 11 b ∧ A 11 b ≤ 999)
/-- the reference's land -/
def LandM (T : TH) (A : LA) : Prop := T 13 17 0 = A 0 0 ∧ T 13 18 0 = A 1 0 ∧ T 13 20 0 = A 2 0 ∧ T 13 23 0 = A 3 0 ∧ T 13 25 0 = A 4 0 ∧ T 13 22 0 = A 5 0 ∧
  (∀ f, 0 ≤ f → f < A 1 0 → T 13 19 (4 * f) = A 6 f ∧ T 13 19 (4 * f + 1) = A 7 f ∧ T 13 19 (4 * f + 2) = A 8 f) ∧
  (∀ k, 0 ≤ k → k < A 2 0 → T 13 21 (2 * k) = A 9 k ∧ T 13 21 (2 * k + 1) = A 10 k) ∧
  (∀ b, 0 ≤ b → b < A 3 0 → T 13 24 b = A 11 b)
/-- the class's land, object o -/
def LandC (T : TH) (o : Nat) (A : LA) : Prop := T o 0 0 = A 0 0 ∧ T o 1 0 = A 1 0 ∧ T o 2 0 = A 2 0 ∧ T o 3 0 = A 3 0 ∧ T o 4 0 = A 4 0 ∧ T o 5 0 = A 5 0 ∧
  (ms 8 (T o 6 0) ∧ ∀ f, 0 ≤ f → f < A 1 0 → bt (T o 6 0) f = decide (A 8 f = 1)) ∧
  (∀ f, 0 ≤ f → f < A 1 0 → T o 8 f = A 6 f ∧ T o 9 f = A 7 f) ∧
  (∀ p, 0 ≤ p → p < A 0 0 → ms 8 (T o 11 p) ∧ ∀ f, 0 ≤ f → f < 8 → bt (T o 11 p) f = decide (f < A 1 0 ∧ A 6 f = p)) ∧
  (∀ p, 0 ≤ p → p < A 0 0 → ms 7 (T o 12 p) ∧ ∀ q, 0 ≤ q → q < 7 → bt (T o 12 p) q = frB A p q) ∧
  (∀ k, 0 ≤ k → k < A 2 0 → T o 13 k = A 9 k ∧ T o 14 k = A 10 k) ∧
  (∀ b, 0 ≤ b → b < A 3 0 → T o 15 b = A 11 b)
/-- heads: S 0 p f the hour since which p has f, -1 if he doesn't; S 1 0 0 hours; S 2 0 0 the seed -/
def HAok (A : LA) (S : HA) (M : Int) : Prop := (0 ≤ S 1 0 0 ∧ S 1 0 0 ≤ M) ∧ (0 ≤ S 2 0 0 ∧ S 2 0 0 ≤ 2147483647) ∧
  (∀ p f, 0 ≤ p → p < 7 → 0 ≤ f → f < 8 → S 0 p f = -1 ∨ (p < A 0 0 ∧ f < A 1 0 ∧ 0 ≤ S 0 p f ∧ S 0 p f ≤ S 1 0 0))
def HeadM (T : TH) (j : Nat) (off : Int) (S : HA) : Prop := (∀ p f, 0 ≤ p → p < 7 → 0 ≤ f → f < 8 → T 13 j (off + (8 * p + f)) = S 0 p f) ∧ T 13 j (off + 56) = S 1 0 0 ∧ T 13 j (off + 57) = S 2 0 0
def HeadC (T : TH) (o : Nat) (S : HA) : Prop := T o 0 0 = S 1 0 0 ∧ T o 1 0 = S 2 0 0 ∧
  (∀ f, 0 ≤ f → f < 8 → ms 7 (T o 2 f) ∧ ∀ p, 0 ≤ p → p < 7 → bt (T o 2 f) p = decide (S 0 p f ≠ -1)) ∧
  (∀ p f, 0 ≤ p → p < 7 → 0 ≤ f → f < 8 → S 0 p f ≠ -1 → T o 4 (p * 8 + f) = S 0 p f)
theorem HeadM.at0 {T : TH} {j : Nat} {S : HA} (h : HeadM T j 0 S) {p f : Int} (h1 : 0 ≤ p) (h2 : p < 7) (h3 : 0 ≤ f) (h4 : f < 8) : T 13 j (8 * p + f) = S 0 p f := by
  have := h.1 p f h1 h2 h3 h4
  rwa [Int.zero_add] at this
theorem HeadM.h0 {T : TH} {j : Nat} {S : HA} (h : HeadM T j 0 S) : T 13 j 56 = S 1 0 0 := h.2.1
theorem HeadM.s0 {T : TH} {j : Nat} {S : HA} (h : HeadM T j 0 S) : T 13 j 57 = S 2 0 0 := h.2.2
/-- heads of a fact, weight of a person -/
def hdS (A : LA) (S : HA) (f : Int) : Int := sZ (fun p => zi (decide (p ≠ A 6 f ∧ S 0 p f ≠ -1))) (A 0 0).toNat
def vlS (A : LA) (S : HA) (p f : Int) : Int := if A 6 f = p then A 7 f * hdS A S f else 0
def wtS (A : LA) (S : HA) (p : Int) : Int := sZ (fun f => if A 8 f = 1 then -vlS A S p f else vlS A S p f) (A 1 0).toNat
theorem zi_01 (b : Bool) : 0 ≤ zi b ∧ zi b ≤ 1 := by cases b <;> decide
theorem hdS_R {A : LA} (h : LAok A) (S : HA) (f : Int) : 0 ≤ hdS A S f ∧ hdS A S f ≤ 7 := by
  have h1 := h.1
  refine ⟨sZ_nonneg (fun i _ _ => (zi_01 _).1), ?_⟩
  have := sZ_le (f := fun p => zi (decide (p ≠ A 6 f ∧ S 0 p f ≠ -1))) (g := fun _ => 1) (n := (A 0 0).toNat) (fun i _ _ => (zi_01 _).2)
  rw [sZ_const] at this
  unfold hdS
  omega
theorem vlS_R {A : LA} (h : LAok A) (S : HA) (p : Int) {f : Int} (h0 : 0 ≤ f) (h1 : f < A 1 0) : 0 ≤ vlS A S p f ∧ vlS A S p f ≤ 63 := by
  unfold vlS
  have h2 := hdS_R h S f
  have h3 := (h.2.2.2.2.2.2.1 f h0 h1).2.1
  split
  · have e1 : 0 ≤ A 7 f * hdS A S f := Int.mul_nonneg (by omega) h2.1
    have e2 : A 7 f * hdS A S f ≤ 9 * 7 := Int.mul_le_mul h3.2 h2.2 h2.1 (by decide)
    omega
  · omega
theorem wtS_R {A : LA} (h : LAok A) (S : HA) (p : Int) : -504 ≤ wtS A S p ∧ wtS A S p ≤ 504 := by
  have h1 := h.2.1
  have := sZ_bound (g := fun f => if A 8 f = 1 then -vlS A S p f else vlS A S p f) (c := 63) (n := (A 1 0).toNat) (fun i h0 h2 => by
    have := vlS_R h S p h0 (by omega : i < A 1 0)
    show -63 ≤ (if A 8 i = 1 then -vlS A S p i else vlS A S p i) ∧ (if A 8 i = 1 then -vlS A S p i else vlS A S p i) ≤ 63
    split <;> omega)
  unfold wtS
  omega
/-! the reference's small methods -/
theorem sp9_in {v a b : Int} {T : TH} {Q : Bool → TH → Prop} (h1 : zR v) (h2 : zR a) (h3 : zR b) (hq : Q (decide (a ≤ v ∧ v ≤ b)) T) : wp_X9_in v a b T Q := by
  unfold wp_X9_in
  refine ⟨h1, h2, fun h => ?_, fun h => ⟨h1, h3, fun h' => ?_, fun h' => ?_⟩⟩
  · rwa [decide_eq_false (by omega)] at hq
  · rwa [decide_eq_false (by omega)] at hq
  · rwa [decide_eq_true (by omega)] at hq
theorem sp9_has {s k : Int} {T : TH} {Q : Bool → TH → Prop} (hs : ms 31 s) (h0 : 0 ≤ k) (h1 : k < 31) (hq : Q (bt s k) T) : wp_X9_has s k T Q := by
  unfold wp_X9_has
  rw [bit_at hs h0 h1]
  refine ⟨zi_R _, fun h => ?_, fun h => ?_⟩
  · rwa [show bt s k = false by cases e : bt s k with | false => rfl | true => rw [e] at h; exact absurd rfl h] at hq
  · rwa [(zi_1 _).mp h] at hq
theorem sp9_isOne {A : LA} {T : TH} (hA : LAok A) (hM : LandM T A) {p : Int} {Q : Bool → TH → Prop} (hp : zR p) (hq : Q (decide (0 ≤ p ∧ p < A 0 0)) T) : wp_X9_isOne p T Q := by
  unfold wp_X9_isOne
  rw [hM.1]
  have := hA.1
  refine sp9_in hp z0 (by unfold zR; omega) ?_
  have e : decide (0 ≤ p ∧ p ≤ A 0 0 - 1) = decide (0 ≤ p ∧ p < A 0 0) := decide_eq_decide.mpr (by omega)
  rw [e]
  exact hq
theorem sp9_isFact {A : LA} {T : TH} (hA : LAok A) (hM : LandM T A) {f : Int} {Q : Bool → TH → Prop} (hp : zR f) (hq : Q (decide (0 ≤ f ∧ f < A 1 0)) T) : wp_X9_isFact f T Q := by
  unfold wp_X9_isFact
  rw [hM.2.1]
  have := hA.2.1
  refine sp9_in hp z0 (by unfold zR; omega) ?_
  have e : decide (0 ≤ f ∧ f ≤ A 1 0 - 1) = decide (0 ≤ f ∧ f < A 1 0) := decide_eq_decide.mpr (by omega)
  rw [e]
  exact hq
theorem sp9_isBridge {A : LA} {T : TH} (hA : LAok A) (hM : LandM T A) {b : Int} {Q : Bool → TH → Prop} (hp : zR b) (hq : Q (decide (0 ≤ b ∧ b < A 3 0)) T) : wp_X9_isBridge b T Q := by
  unfold wp_X9_isBridge
  rw [hM.2.2.2.1]
  have := hA.2.2.2.1
  refine sp9_in hp z0 (by unfold zR; omega) ?_
  have e : decide (0 ≤ b ∧ b ≤ A 3 0 - 1) = decide (0 ≤ b ∧ b < A 3 0) := decide_eq_decide.mpr (by omega)
  rw [e]
  exact hq
theorem sp9_personOf {A : LA} {T : TH} (hA : LAok A) (hM : LandM T A) {f : Int} {Q : Int → TH → Prop} (h0 : 0 ≤ f) (h1 : f < A 1 0) (hq : Q (A 6 f) T) : wp_X9_personOf f T Q := by
  have := hA.2.1
  have e := (hM.2.2.2.2.2.2.1 f h0 h1).1
  unfold wp_X9_personOf
  rw [e]
  exact ⟨by omega, by omega, hq⟩
theorem sp9_gramsOf {A : LA} {T : TH} (hA : LAok A) (hM : LandM T A) {f : Int} {Q : Int → TH → Prop} (h0 : 0 ≤ f) (h1 : f < A 1 0) (hq : Q (A 7 f) T) : wp_X9_gramsOf f T Q := by
  have := hA.2.1
  have e := (hM.2.2.2.2.2.2.1 f h0 h1).2.1
  unfold wp_X9_gramsOf
  rw [e]
  exact ⟨by omega, by omega, hq⟩
theorem sp9_isLie {A : LA} {T : TH} (hA : LAok A) (hM : LandM T A) {f : Int} {Q : Bool → TH → Prop} (h0 : 0 ≤ f) (h1 : f < A 1 0) (hq : Q (decide (A 8 f = 1)) T) : wp_X9_isLie f T Q := by
  have := hA.2.1
  have e := (hM.2.2.2.2.2.2.1 f h0 h1).2.2
  have r := (hA.2.2.2.2.2.2.1 f h0 h1).2.2
  unfold wp_X9_isLie
  rw [e]
  refine ⟨by omega, by omega, by unfold zR; omega, fun h => ?_, fun h => ?_⟩
  · rwa [decide_eq_false h] at hq
  · rwa [decide_eq_true h] at hq
theorem sp9_knows {A : LA} {T : TH} {S : HA} {j : Nat} {M : Int} (hM : M ≤ 1000000) (hS : HAok A S M) (hH : HeadM T j 0 S) {p f : Int} {Q : Bool → TH → Prop} (p0 : 0 ≤ p) (p1 : p < 7) (f0 : 0 ≤ f) (f1 : f < 8) (hq : Q (decide (S 0 p f ≠ -1)) T) : wp_X9_knows 13 j 58 p f T Q := by
  unfold wp_X9_knows
  have r := hS.2.2 p f p0 p1 f0 f1
  have r2 := hS.1
  have e := hH.at0 p0 p1 f0 f1
  rw [e]
  refine ⟨by omega, by show 8 * p + f < 58; omega, by unfold zR; omega, fun h => ?_, fun h => ?_⟩
  · rwa [decide_eq_false (by simpa using h)] at hq
  · rwa [decide_eq_true h] at hq
theorem sp9_headsOf {A : LA} {T : TH} {S : HA} {j : Nat} {M : Int} (hA : LAok A) (hL : LandM T A) (hM : M ≤ 1000000) (hS : HAok A S M) (hH : HeadM T j 0 S) {f : Int} {Q : Int → TH → Prop} (f0 : 0 ≤ f) (f1 : f < A 1 0) (hq : Q (hdS A S f) T) : wp_X9_headsOf 13 j 58 f T Q := by
  unfold wp_X9_headsOf
  have a0 := hA.1
  have a1 := hA.2.1
  have a6 := (hA.2.2.2.2.2.2.1 f f0 f1).1
  refine ⟨(A 0 0).toNat + 1, ?_⟩
  have key : ∀ (d i : Nat), i + d = (A 0 0).toNat → h_X9_headsOf_5 13 j 58 f Q (d + 1) (sZ (fun p => zi (decide (p ≠ A 6 f ∧ S 0 p f ≠ -1))) i) i T := by
    intro d
    induction d with
    | zero =>
      intro i hi
      rw [h_X9_headsOf_5, hL.1]
      refine ⟨by unfold zR; omega, by unfold zR; omega, fun _ => ?_, fun h => absurd (by omega) h⟩
      have : i = (A 0 0).toNat := by omega
      subst this
      exact hq
    | succ d ih =>
      intro i hi
      have ihn := ih (i + 1) (by omega)
      rw [sZ] at ihn
      rw [h_X9_headsOf_5, hL.1]
      refine ⟨by unfold zR; omega, by unfold zR; omega, fun h => absurd h (by omega), fun _ => ?_⟩
      refine sp9_personOf hA hL f0 f1 ?_
      refine ⟨by unfold zR; omega, by unfold zR; omega, fun h => ?_, fun h => ?_⟩
      · show ∀ w1 : Int, w1 = _ → _
        rintro _ rfl
        rw [decide_eq_false (by omega)] at ihn
        exact ihn
      · refine sp9_knows hM hS hH (by omega) (by omega) f0 (by omega) ?_
        refine dec_ft (fun hk => ?_) (fun hk => ?_)
        · show ∀ w1 : Int, w1 = _ → _
          rintro _ rfl
          rw [decide_eq_false (fun z => hk z.2)] at ihn
          exact ihn
        · show ∀ w1 : Int, w1 = _ → _
          rintro _ rfl
          rw [decide_eq_true ⟨h, hk⟩] at ihn
          exact ihn
  exact key (A 0 0).toNat 0 (by omega)
theorem sp9_weightOf {A : LA} {T : TH} {S : HA} {j : Nat} {M : Int} (hA : LAok A) (hL : LandM T A) (hM : M ≤ 1000000) (hS : HAok A S M) (hH : HeadM T j 0 S) {p : Int} {Q : Int → TH → Prop} (hp : zR p) (hq : Q (wtS A S p) T) : wp_X9_weightOf 13 j 58 p T Q := by
  unfold wp_X9_weightOf
  have a0 := hA.1
  have a1 := hA.2.1
  refine ⟨(A 1 0).toNat + 1, ?_⟩
  have key : ∀ (d i : Nat), i + d = (A 1 0).toNat → h_X9_weightOf_5 13 j 58 p Q (d + 1) (sZ (fun f => if A 8 f = 1 then -vlS A S p f else vlS A S p f) i) i T := by
    intro d
    induction d with
    | zero =>
      intro i hi
      rw [h_X9_weightOf_5, hL.2.1]
      refine ⟨by unfold zR; omega, by unfold zR; omega, fun _ => ?_, fun h => absurd (by omega) h⟩
      have : i = (A 1 0).toNat := by omega
      subst this
      exact hq
    | succ d ih =>
      intro i hi
      have ihn := ih (i + 1) (by omega)
      rw [sZ] at ihn
      have a6 := hA.2.2.2.2.2.2.1 i (by omega) (by omega)
      have fin : ∀ v : Int, v = vlS A S p i → b_X9_weightOf_42 13 j 58 p Q (h_X9_weightOf_5 13 j 58 p Q (d + 1)) (sZ (fun f => if A 8 f = 1 then -vlS A S p f else vlS A S p f) i) i v T := by
        intro v hv
        subst hv
        unfold b_X9_weightOf_42
        refine sp9_isLie hA hL (by omega) (by omega) ?_
        refine dec_ft (fun hk => ?_) (fun hk => ?_)
        · show ∀ w1 : Int, w1 = _ → _
          rintro _ rfl
          rw [if_neg hk] at ihn
          exact ihn
        · show ∀ w1 : Int, w1 = _ → _
          rintro _ rfl
          rw [if_pos hk] at ihn
          exact ihn
      rw [h_X9_weightOf_5, hL.2.1]
      refine ⟨by unfold zR; omega, by unfold zR; omega, fun h => absurd h (by omega), fun _ => ?_⟩
      refine sp9_personOf hA hL (by omega) (by omega) ?_
      refine ⟨by unfold zR; omega, hp, fun h => ?_, fun h => ?_⟩
      · exact fin 0 (by unfold vlS; rw [if_neg h])
      · refine sp9_gramsOf hA hL (by omega) (by omega) ?_
        refine sp9_headsOf hA hL hM hS hH (by omega) (by omega) ?_
        exact fin _ (by unfold vlS; rw [if_pos h])
  exact key (A 1 0).toNat 0 (by omega)
