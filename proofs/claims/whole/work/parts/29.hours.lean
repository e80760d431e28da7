/-! an hour -/
theorem sp_fill {T : TH} {o j n : Nat} {v : Int} {Q : TH → Prop} (hn : n ≤ 5000) (hq : ∀ T', (∀ k : Int, 0 ≤ k → k < n → T' o j k = v) → (∀ (o' j' : Nat) (i : Int), ¬ (o' = o ∧ j' = j) → T' o' j' i = T o' j' i) → Q T') : wp_J7_fill_53178 o j n v T Q := by
  unfold wp_J7_fill_53178
  rintro _ rfl
  refine ⟨n + 1, ?_⟩
  have key : ∀ (d i : Nat) (T1 : TH), i + d = n → (∀ k : Int, 0 ≤ k → k < (i : Int) → T1 o j k = v) → (∀ (o' j' : Nat) (x : Int), ¬ (o' = o ∧ j' = j) → T1 o' j' x = T o' j' x) → h_J7_fill_53178_5 o j n v Q (d + 1) i n T1 := by
    intro d
    induction d with
    | zero =>
      intro i T1 hi k1 k2
      have : i = n := by omega
      subst this
      rw [h_J7_fill_53178_5]
      exact ⟨by unfold zR; omega, by unfold zR; omega, fun _ => hq T1 k1 k2, fun h => absurd (by omega) h⟩
    | succ d ih =>
      intro i T1 hi k1 k2
      rw [h_J7_fill_53178_5]
      refine ⟨by unfold zR; omega, by unfold zR; omega, fun h => absurd h (by omega), fun _ => ⟨by omega, by omega, ?_⟩⟩
      rintro _ rfl
      refine ih (i + 1) _ (by omega) (fun k k0 kk => ?_) (fun o' j' x hn => ?_)
      · by_cases e : k = i
        · subst e
          rw [up_eq]
        · rw [up_ne (by omega)]
          exact k1 k k0 (by omega)
      · rw [up_ne (by omega)]
        exact k2 o' j' x hn
  exact key n 0 T (by omega) (fun k k0 k1 => by omega) (fun _ _ _ _ => rfl)
def fgv (m h v : Int) : Int := if 0 < m ∧ v ≠ -1 ∧ m ≤ h - v then -1 else v
def fgS (A : LA) (S : HA) : HA := fun k a b => if k = 0 then fgv (A 4 0) (S 1 0 0 + 1) (S 0 a b) else if k = 1 then S 1 a b + 1 else S k a b
def opS (A : LA) (S : HA) (p f q : Int) : Prop := S 0 p f ≠ -1 ∧ frB A p q = true ∧ S 0 q f = -1
def tlS (A : LA) (S : HA) (p f q : Int) : Prop := f < A 1 0 ∧ opS A S p f q ∧ (∀ q', 0 ≤ q' → q' < q → ¬ opS A S p f q') ∧ (∀ f', 0 ≤ f' → f' < f → ∀ q', 0 ≤ q' → q' < 7 → ¬ opS A S p f' q')
def hrS (A : LA) (S : HA) (n f q : Int) : Prop := ∃ p, 0 ≤ p ∧ p < n ∧ bt (A 5 0) p = false ∧ tlS A S p f q
def PassR (A : LA) (S S2 : HA) : Prop := S2 1 0 0 = S 1 0 0 + 1 ∧ S2 2 0 0 = S 2 0 0 ∧ ∀ q f, 0 ≤ q → q < 7 → 0 ≤ f → f < 8 → (hrS A (fgS A S) (A 0 0) f q → S2 0 q f = S 1 0 0 + 1) ∧ (¬ hrS A (fgS A S) (A 0 0) f q → S2 0 q f = fgS A S 0 q f)
theorem fgS_0 (A : LA) (S : HA) (a b : Int) : fgS A S 0 a b = fgv (A 4 0) (S 1 0 0 + 1) (S 0 a b) := rfl
theorem fgS_1 (A : LA) (S : HA) : fgS A S 1 0 0 = S 1 0 0 + 1 := rfl
theorem fgS_2 (A : LA) (S : HA) : fgS A S 2 0 0 = S 2 0 0 := rfl
theorem frB_lt {A : LA} (hA : LAok A) {p q : Int} (h : frB A p q = true) : 0 ≤ q ∧ q < A 0 0 := by
  unfold frB at h
  obtain ⟨k, k0, k1, k2⟩ := anyZ_iff.mp h
  have k2 := of_decide_eq_true k2
  obtain ⟨r1, r2, r3⟩ := hA.2.2.2.2.2.2.2.1 k k0 (by omega)
  rcases k2 with z | z <;> omega
theorem HeadC.cg {T : TH} {o : Nat} {S S' : HA} (h : HeadC T o S) (e1 : S' 1 0 0 = S 1 0 0) (e2 : S' 2 0 0 = S 2 0 0) (e : ∀ p f, 0 ≤ p → p < 7 → 0 ≤ f → f < 8 → S' 0 p f = S 0 p f) : HeadC T o S' := by
  obtain ⟨h1, h2, h3, h4⟩ := h
  refine ⟨h1.trans e1.symm, h2.trans e2.symm, fun f f0 f1 => ⟨(h3 f f0 f1).1, fun p p0 p1 => ?_⟩, fun p f p0 p1 f0 f1 hk => ?_⟩
  · rw [e p f p0 p1 f0 f1]
    exact (h3 f f0 f1).2 p p0 p1
  · rw [e p f p0 p1 f0 f1] at hk ⊢
    exact h4 p f p0 p1 f0 f1 hk
theorem fgS_ok {A : LA} {S : HA} {M : Int} (h : HAok A S M) : HAok A (fgS A S) (M + 1) := by
  obtain ⟨h1, h2, h3⟩ := h
  refine ⟨by rw [fgS_1]; omega, by rw [fgS_2]; exact h2, fun p f p0 p1 f0 f1 => ?_⟩
  rw [fgS_0, fgS_1]
  have := h3 p f p0 p1 f0 f1
  unfold fgv
  split <;> omega
theorem PassR.ok {A : LA} {S S2 : HA} {M : Int} (hA : LAok A) (h : HAok A S M) (hp : PassR A S S2) : HAok A S2 (M + 1) := by
  have g := fgS_ok h
  obtain ⟨p1, p2, p3⟩ := hp
  refine ⟨by rw [p1]; have := h.1; omega, by rw [p2]; exact h.2.1, fun q f q0 q1 f0 f1 => ?_⟩
  obtain ⟨c1, c2⟩ := p3 q f q0 q1 f0 f1
  rw [p1]
  by_cases e : hrS A (fgS A S) (A 0 0) f q
  · rw [c1 e]
    obtain ⟨p, q0, q1, q2, t1, t2, t3⟩ := e
    have := frB_lt hA t2.2.1
    have := h.1
    exact Or.inr ⟨by omega, t1, by omega, by omega⟩
  · rw [c2 e]
    have := g.2.2 q f q0 q1 f0 f1
    rw [fgS_1] at this
    exact this
theorem sp_forgetOld {A : LA} {T : TH} {S : HA} {o l : Nat} {M : Int} (hA : LAok A) (hol : l ≠ o) (hC : LandC T l A) (hM : M ≤ 1000000) (hS : HAok A S M) (hH : HeadC T o (setK S 1 (S 1 0 0 + 1))) {Q : TH → Prop} (hq : ∀ T', HeadC T' o (fgS A S) → (∀ o' j i, ¬ (o' = o ∧ j = 2) → T' o' j i = T o' j i) → Q T') : wp_X2_forgetOld o l T Q := by
  have n0 := hA.1
  have n1 := hA.2.1
  have n4 := hA.2.2.2.2.1
  have s1 := hS.1
  unfold wp_X2_forgetOld
  rw [hC.2.2.2.2.1]
  refine ⟨by unfold zR; omega, fun hm => ?_, fun hm => ?_⟩
  rotate_left
  · refine hq T (hH.cg (by rw [fgS_1, setK_hit]) (by rw [fgS_2, setK_ne (by decide)]) (fun p f _ _ _ _ => ?_)) (fun _ _ _ _ => rfl)
    rw [fgS_0, setK_0 (by decide)]
    unfold fgv
    rw [if_neg (by omega)]
  have m0 : 0 < A 4 0 := by omega
  let P : Nat → Nat → HA → Prop := fun i j Sx => Sx 1 0 0 = S 1 0 0 + 1 ∧ Sx 2 0 0 = S 2 0 0 ∧ ∀ a b : Int, 0 ≤ a → a < 7 → 0 ≤ b → b < 8 → ((b < (i : Int) ∨ (b = (i : Int) ∧ a < (j : Int))) → Sx 0 a b = fgS A S 0 a b) ∧ (¬ (b < (i : Int) ∨ (b = (i : Int) ∧ a < (j : Int))) → Sx 0 a b = S 0 a b)
  let F : TH → Prop := fun T' => ∀ o' j i, ¬ (o' = o ∧ j = 2) → T' o' j i = T o' j i
  have emp : ∀ a b : Int, 0 ≤ a → a < 7 → 0 ≤ b → b < 8 → ¬ (a < A 0 0 ∧ b < A 1 0) → S 0 a b = fgS A S 0 a b := fun a b a0 a1 b0 b1 hn => by
    have := hS.2.2 a b a0 a1 b0 b1
    rw [fgS_0]
    unfold fgv
    rw [if_neg (by omega)]
  have inner : ∀ (K : Int → TH → Prop) (i : Nat), i < (A 1 0).toNat → (∀ T' Sx, F T' → HeadC T' o Sx → P (i + 1) 0 Sx → K (i + 1) T') → ∀ (d j : Nat) (T1 : TH) (Sx : HA), j + d = (A 0 0).toNat → F T1 → HeadC T1 o Sx → P i j Sx → h_X2_forgetOld_20 o l Q K (d + 1) i j T1 := by
    intro K i hi hK d
    induction d with
    | zero =>
      intro j T1 Sx hj hF hx hP
      rw [h_X2_forgetOld_20, hF l 0 0 (by omega), hC.1]
      refine ⟨by unfold zR; omega, by unfold zR; omega, fun _ => ?_, fun h => absurd (by omega) h⟩
      refine hK T1 Sx hF hx ⟨hP.1, hP.2.1, fun a b a0 a1 b0 b1 => ⟨fun hh => ?_, fun hh => (hP.2.2 a b a0 a1 b0 b1).2 (by omega)⟩⟩
      by_cases e : b < i ∨ (b = i ∧ a < j)
      · exact (hP.2.2 a b a0 a1 b0 b1).1 e
      · rw [(hP.2.2 a b a0 a1 b0 b1).2 e]
        exact emp a b a0 a1 b0 b1 (by omega)
    | succ d ih =>
      intro j T1 Sx hj hF hx hP
      rw [h_X2_forgetOld_20, hF l 0 0 (by omega), hC.1]
      refine ⟨by unfold zR; omega, by unfold zR; omega, fun h => absurd h (by omega), fun _ => ?_⟩
      have old : Sx 0 j i = S 0 j i := (hP.2.2 j i (by omega) (by omega) (by omega) (by omega)).2 (by omega)
      have stay : fgS A S 0 j i = S 0 j i → b_X2_forgetOld_61 o l Q K (h_X2_forgetOld_20 o l Q K (d + 1)) i j T1 := fun e => by
        refine ih (j + 1) T1 Sx (by omega) hF hx ⟨hP.1, hP.2.1, fun a b a0 a1 b0 b1 => ⟨fun hh => ?_, fun hh => (hP.2.2 a b a0 a1 b0 b1).2 (by omega)⟩⟩
        by_cases e2 : b < i ∨ (b = i ∧ a < j)
        · exact (hP.2.2 a b a0 a1 b0 b1).1 e2
        · have ha : a = j := by omega
          have hb : b = i := by omega
          subst ha hb
          rw [old, e]
      refine sp_knows hx (by omega) (by omega) (by omega) (by omega) ?_
      rw [old]
      refine dec_ft (fun hk => ?_) (fun hk => ?_)
      · have hk : S 0 j i = -1 := by simpa using hk
        refine stay ?_
        rw [fgS_0, hk]
        unfold fgv
        rw [if_neg (by omega)]
      · refine sp_heardAt hx (by omega) (by omega) (by omega) (by omega) (by rw [old]; exact hk) ?_
        rw [old, hx.1, hP.1, hF l 4 0 (by omega), hC.2.2.2.2.1]
        have rg := hS.2.2 j i (by omega) (by omega) (by omega) (by omega)
        refine ⟨by unfold zR; omega, by unfold zR; omega, fun hh => stay ?_, fun hh => ?_⟩
        · rw [fgS_0]
          unfold fgv
          rw [if_neg (by omega)]
        · refine sp_lose hx (by omega) (by omega) (by omega) (by omega) (fun T2 c1 c2 => ?_)
          refine ih (j + 1) T2 _ (by omega) (fun o' j' i' hn => (c2 _ _ _ hn).trans (hF _ _ _ hn)) c1 ⟨by rw [setS_1]; exact hP.1, by rw [setS_2]; exact hP.2.1, fun a b a0 a1 b0 b1 => ?_⟩
          by_cases e : a = j ∧ b = i
          · obtain ⟨rfl, rfl⟩ := e
            rw [setS_hit]
            refine ⟨fun _ => ?_, fun hh => absurd (by omega) hh⟩
            rw [fgS_0]
            unfold fgv
            rw [if_pos (by omega)]
          · rw [setS_miss e]
            refine ⟨fun hh => (hP.2.2 a b a0 a1 b0 b1).1 (by omega), fun hh => (hP.2.2 a b a0 a1 b0 b1).2 (by omega)⟩
  have outer : ∀ (d i : Nat) (T1 : TH) (Sx : HA), i + d = (A 1 0).toNat → F T1 → HeadC T1 o Sx → P i 0 Sx → h_X2_forgetOld_10 o l Q (d + 1) i T1 := by
    intro d
    induction d with
    | zero =>
      intro i T1 Sx hi hF hx hP
      rw [h_X2_forgetOld_10, hF l 1 0 (by omega), hC.2.1]
      refine ⟨by unfold zR; omega, by unfold zR; omega, fun _ => ?_, fun h => absurd (by omega) h⟩
      refine hq T1 (hx.cg (by rw [fgS_1, hP.1]) (by rw [fgS_2, hP.2.1]) (fun a b a0 a1 b0 b1 => ?_)) hF
      by_cases e : b < i ∨ (b = i ∧ a < 0)
      · exact ((hP.2.2 a b a0 a1 b0 b1).1 e).symm
      · rw [(hP.2.2 a b a0 a1 b0 b1).2 e]
        exact (emp a b a0 a1 b0 b1 (by omega)).symm
    | succ d ih =>
      intro i T1 Sx hi hF hx hP
      rw [h_X2_forgetOld_10, hF l 1 0 (by omega), hC.2.1]
      refine ⟨by unfold zR; omega, by unfold zR; omega, fun h => absurd h (by omega), fun _ => ⟨(A 0 0).toNat + 1, ?_⟩⟩
      exact inner _ i (by omega) (fun T' Sx' f' x' p' => ih (i + 1) T' Sx' (by omega) f' x' p') (A 0 0).toNat 0 T1 Sx (by omega) hF hx hP
  refine ⟨(A 1 0).toNat + 1, ?_⟩
  exact outer (A 1 0).toNat 0 T _ (by omega) (fun _ _ _ _ => rfl) hH ⟨setK_hit _ _ _, setK_ne (by decide), fun a b a0 a1 b0 b1 => ⟨fun hh => absurd hh (by omega), fun _ => setK_0 (by decide)⟩⟩
