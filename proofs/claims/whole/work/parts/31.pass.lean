/-! the reference's hour -/
def HdR (T : TH) (A : LA) (S : HA) (h n : Int) : Prop := ∀ q f, 0 ≤ q → q < 7 → 0 ≤ f → f < 8 → (hrS A S n f q → T 13 27 (8 * q + f) = h) ∧ (¬ hrS A S n f q → T 13 27 (8 * q + f) = S 0 q f)
theorem sp9_tells {A : LA} {T : TH} {S : HA} {M p : Int} (hA : LAok A) (hL : LandM T A) (hM : M ≤ 1000000) (hS : HAok A S M) (hH : HeadM T 28 0 S) {Q : TH → Prop} (p0 : 0 ≤ p) (p1 : p < A 0 0) (hq : ∀ T', (∀ q f, 0 ≤ q → q < 7 → 0 ≤ f → f < 8 → (tlS A S p f q → T' 13 27 (8 * q + f) = T 13 27 56) ∧ (¬ tlS A S p f q → T' 13 27 (8 * q + f) = T 13 27 (8 * q + f))) → (∀ (o' j : Nat) (i : Int), ¬ (o' = 13 ∧ j = 27 ∧ 0 ≤ i ∧ i < 56) → T' o' j i = T o' j i) → Q T') : wp_X9_tells p T Q := by
  have n0 := hA.1
  have n1 := hA.2.1
  unfold wp_X9_tells
  refine sp9_friendsOf hA hL (by unfold zR; omega) (fun fr fr1 fr2 => ?_)
  refine ⟨(A 1 0).toNat + 1, ?_⟩
  have key : ∀ (d i : Nat), i + d = (A 1 0).toNat → (∀ f', 0 ≤ f' → f' < (i : Int) → ∀ q', 0 ≤ q' → q' < 7 → ¬ opS A S p f' q') → h_X9_tells_8 p Q (d + 1) fr i T := by
    intro d
    induction d with
    | zero =>
      intro i hi hno
      rw [h_X9_tells_8, hL.2.1]
      refine ⟨by unfold zR; omega, by unfold zR; omega, fun _ => ?_, fun h => absurd (by omega) h⟩
      refine hq T (fun q f q0 q1 f0 f1 => ⟨fun h => ?_, fun _ => rfl⟩) (fun _ _ _ _ => rfl)
      exact absurd h.2.1 (hno f f0 (by have := h.1; omega) q q0 q1)
    | succ d ih =>
      intro i hi hno
      rw [h_X9_tells_8, hL.2.1]
      refine ⟨by unfold zR; omega, by unfold zR; omega, fun h => absurd h (by omega), fun _ => ?_⟩
      have fin : ∀ s : Int, ms 7 s → (∀ q, 0 ≤ q → q < 7 → (bt s q = true ↔ opS A S p i q)) → b_X9_tells_45 p Q (h_X9_tells_8 p Q (d + 1)) fr i s T := by
        intro s s1 s2
        refine ⟨ms_R s1 (by decide), fun e => ?_, fun e => ?_⟩
        · refine ih (i + 1) (by omega) (fun f' f0 f1 q' q0 q1 => ?_)
          by_cases e2 : f' = i
          · subst e2
            intro h
            exact bt_nz ((s2 q' q0 q1).mpr h) e
          · exact hno f' f0 (by omega) q' q0 q1
        · obtain ⟨q, q0, q1, q2, q3, q4⟩ := low_b s1 e
          refine ⟨q.toNat + 1, ?_⟩
          have look : ∀ (d' j : Nat), j + d' = q.toNat → h_X9_tells_55 p Q (d' + 1) i s j T := by
            intro d'
            induction d' with
            | zero =>
              intro j hj
              have hj : (j : Int) = q := by omega
              rw [h_X9_tells_55, hj]
              refine sp9_has (ms_up s1 (by decide)) q0 (by omega) ?_
              rw [q3]
              refine ⟨fun _ => ⟨by omega, by omega, ?_⟩, fun h => absurd h (by decide)⟩
              rintro _ rfl
              have tl : tlS A S p i q := ⟨by omega, (s2 q q0 q1).mp q3, fun q'' c1 c2 h => by
                rw [← s2 q'' c1 (by omega), q4 q'' c1 c2] at h
                exact absurd h (by decide), hno⟩
              refine hq _ (fun a b a0 a1 b0 b1 => ?_) (fun o' j' x hn => up_ne (by omega))
              by_cases e2 : a = q ∧ b = i
              · obtain ⟨rfl, rfl⟩ := e2
                rw [up_eq]
                exact ⟨fun _ => rfl, fun z => absurd tl z⟩
              · rw [up_ne (by omega)]
                refine ⟨fun h => ?_, fun _ => rfl⟩
                exfalso
                obtain ⟨r1, r2, r3, r4⟩ := h
                by_cases e3 : b < i
                · exact hno b b0 e3 a a0 a1 r2
                · by_cases e4 : b = i
                  · subst e4
                    have z1 : ¬ q < a := fun h => r3 q q0 h ((s2 q q0 q1).mp q3)
                    have z2 : ¬ a < q := fun h => by
                      have := (s2 a a0 a1).mpr r2
                      rw [q4 a a0 h] at this
                      exact absurd this (by decide)
                    exact e2 ⟨by omega, rfl⟩
                  · exact r4 i (by omega) (by omega) q q0 q1 ((s2 q q0 q1).mp q3)
            | succ d' ih' =>
              intro j hj
              rw [h_X9_tells_55]
              refine sp9_has (ms_up s1 (by decide)) (by omega) (by omega) ?_
              rw [q4 j (by omega) (by omega)]
              exact ⟨fun h => absurd h (by decide), fun _ => ih' (j + 1) (by omega)⟩
          exact look q.toNat 0 (by omega)
      refine sp9_knows hM hS hH p0 (by omega) (by omega) (by omega) ?_
      refine dec_ft (fun hk => ?_) (fun hk => ?_)
      · refine fin 0 (ms_0 7) (fun q q0 q1 => ⟨fun h => ?_, fun h => absurd h.1 hk⟩)
        rw [bt_0] at h
        exact absurd h (by decide)
      · refine sp9_knowersOf hA hL hM hS hH (by omega) (by omega) ?_
        obtain ⟨k1, k2⟩ := mkS_ok (fun p => decide (S 0 p i ≠ -1)) (n := (A 0 0).toNat) (by omega)
        obtain ⟨b1, b2⟩ := open_bits (p := p) (f := (i : Int)) hA fr1 fr2 (ms_up k1 (by omega)) (fun q q0 q1 => by rw [k2 q q0, decide_eq_true (show q < ((A 0 0).toNat : Int) by omega), Bool.true_and]) hk
        exact fin _ b1 b2
  exact key (A 1 0).toNat 0 (by omega) (fun f' a b => by omega)
theorem sp9_pass {A : LA} {T : TH} {S S2 : HA} {M : Int} (hA : LAok A) (hL : LandM T A) (hM : M ≤ 900000) (hS : HAok A S M) (hH : HeadM T 27 0 S) (hP : PassR A S S2) {Q : TH → Prop} (hq : ∀ T', HeadM T' 27 0 S2 → (∀ (o' j : Nat) (i : Int), ¬ (o' = 13 ∧ (j = 27 ∨ j = 28)) → T' o' j i = T o' j i) → Q T') : wp_X9_pass T Q := by
  have n0 := hA.1
  have n4 := hA.2.2.2.2.1
  have s1 := hS.1
  unfold wp_X9_pass
  intro T1 hT1
  have e1 : ∀ (o' j : Nat) (i : Int), ¬ (o' = 13 ∧ j = 27 ∧ i = 56) → T1 o' j i = T o' j i := fun o' j i hn => by rw [hT1, up_ne (by omega)]
  have hh : T1 13 27 56 = S 1 0 0 + 1 := by rw [hT1, up_eq, hH.h0]
  have vals : ∀ k : Int, 0 ≤ k → k < 56 → ∃ p f : Int, 0 ≤ p ∧ p < 7 ∧ 0 ≤ f ∧ f < 8 ∧ k = 8 * p + f := fun k k0 k1 => ⟨k / 8, k % 8, by omega, by omega, by omega, by omega, by omega⟩
  have rng : ∀ k : Int, 0 ≤ k → k < 56 → -1 ≤ T 13 27 k ∧ T 13 27 k ≤ S 1 0 0 := fun k k0 k1 => by
    obtain ⟨p, f, a, b, c, d, rfl⟩ := vals k k0 k1
    rw [hH.at0 a b c d]
    have := hS.2.2 p f a b c d
    omega
  have fstep : ∀ (T5 : TH), (∀ k : Int, 0 ≤ k → k < 56 → T5 13 27 k = fgv (A 4 0) (S 1 0 0 + 1) (T 13 27 k)) → (∀ (o j : Nat) (x : Int), ¬ (o = 13 ∧ j = 27 ∧ 0 ≤ x ∧ x < 56) → T5 o j x = T1 o j x) → wp_X9_copy 13 27 58 0 13 28 58 0 T5 (fun T1 => (∃ m9 : Nat, h_X9_pass_94 Q m9 0 T1)) := by
    intro T5 k1 k2
    have h5 : HeadM T5 27 0 (fgS A S) := by
      refine ⟨fun p f p0 p1 f0 f1 => ?_, ?_, ?_⟩
      · rw [Int.zero_add, k1 _ (by omega) (by omega), hH.at0 p0 p1 f0 f1, fgS_0]
      · rw [k2 _ _ _ (by omega)]
        exact hh
      · rw [k2 _ _ _ (by omega), e1 _ _ _ (by omega)]
        exact hH.s0
    refine sp9_copy (by decide) (by decide) (by decide) (by decide) (by decide) (fun T6 d1 d2 => ?_)
    have h6 : HeadM T6 28 0 (fgS A S) := h5.eq (fun k k0 kk => d1 k k0 kk)
    have g6 : HeadM T6 27 0 (fgS A S) := h5.eq (fun k k0 kk => d2 _ _ _ (by omega))
    have f6 : ∀ (o' j : Nat) (i : Int), ¬ (o' = 13 ∧ (j = 27 ∨ j = 28)) → T6 o' j i = T o' j i := fun o' j i hn => by rw [d2 _ _ _ (by omega), k2 _ _ _ (by omega), e1 _ _ _ (by omega)]
    have key : ∀ (d i : Nat) (T7 : TH), i + d = (A 0 0).toNat → HdR T7 A (fgS A S) (S 1 0 0 + 1) i → (∀ (o' j : Nat) (x : Int), ¬ (o' = 13 ∧ j = 27 ∧ 0 ≤ x ∧ x < 56) → T7 o' j x = T6 o' j x) → h_X9_pass_94 Q (d + 1) i T7 := by
      intro d
      induction d with
      | zero =>
        intro i T7 hi c1 c2
        rw [h_X9_pass_94, c2 13 17 0 (by omega), f6 13 17 0 (by omega), hL.1]
        refine ⟨by unfold zR; omega, by unfold zR; omega, fun _ => ?_, fun h => absurd (by omega) h⟩
        have hi : (i : Int) = A 0 0 := by omega
        rw [hi] at c1
        refine hq T7 ⟨fun q f q0 q1 f0 f1 => ?_, ?_, ?_⟩ (fun o' j x hn => by rw [c2 _ _ _ (by omega), f6 _ _ _ hn])
        · rw [Int.zero_add]
          obtain ⟨x1, x2⟩ := c1 q f q0 q1 f0 f1
          obtain ⟨y1, y2⟩ := hP.2.2 q f q0 q1 f0 f1
          by_cases e : hrS A (fgS A S) (A 0 0) f q
          · rw [x1 e, y1 e]
          · rw [x2 e, y2 e]
        · rw [c2 _ _ _ (by omega), hP.1]
          exact g6.h0
        · rw [c2 _ _ _ (by omega), hP.2.1]
          exact g6.s0
      | succ d ih =>
        intro i T7 hi c1 c2
        rw [h_X9_pass_94, c2 13 17 0 (by omega), f6 13 17 0 (by omega), hL.1, c2 13 22 0 (by omega), f6 13 22 0 (by omega), hL.2.2.2.2.2.1]
        refine ⟨by unfold zR; omega, by unfold zR; omega, fun h => absurd h (by omega), fun _ => ?_⟩
        refine sp9_has (ms_up hA.2.2.2.2.2.1 (by decide)) (by omega) (by omega) ?_
        refine ⟨fun hb => ?_, fun hb => ?_⟩
        · refine ih (i + 1) T7 (by omega) (fun q f q0 q1 f0 f1 => ?_) c2
          have z : hrS A (fgS A S) ((i + 1 : Nat) : Int) f q ↔ hrS A (fgS A S) i f q := by
            show hrS A (fgS A S) ((i : Int) + 1) f q ↔ _
            rw [hrS_step (by omega), hb]
            simp
          rw [z]
          exact c1 q f q0 q1 f0 f1
        · have l7 : LandM T7 A := hL.off (fun j x hj => by rw [c2 _ _ _ (by omega), f6 _ _ _ (by omega)])
          have m7 : HeadM T7 28 0 (fgS A S) := h6.eq (fun k k0 kk => c2 _ _ _ (by omega))
          refine sp9_tells hA l7 (by omega : M + 1 ≤ 1000000) (fgS_ok hS) m7 (by omega) (by omega) (fun T8 x1 x2 => ?_)
          refine ih (i + 1) T8 (by omega) (fun q f q0 q1 f0 f1 => ?_) (fun o' j x hn => (x2 _ _ _ hn).trans (c2 _ _ _ hn))
          have z : hrS A (fgS A S) ((i + 1 : Nat) : Int) f q ↔ (hrS A (fgS A S) i f q ∨ tlS A (fgS A S) i f q) := by
            show hrS A (fgS A S) ((i : Int) + 1) f q ↔ _
            rw [hrS_step (by omega), hb]
            simp
          rw [z]
          obtain ⟨y1, y2⟩ := x1 q f q0 q1 f0 f1
          obtain ⟨w1, w2⟩ := c1 q f q0 q1 f0 f1
          have h56 : T7 13 27 56 = S 1 0 0 + 1 := by
            rw [c2 _ _ _ (by omega)]
            exact g6.h0
          rw [h56] at y1
          refine ⟨fun h => ?_, fun h => ?_⟩
          · by_cases e : tlS A (fgS A S) i f q
            · exact y1 e
            · rw [y2 e]
              exact w1 (h.resolve_right e)
          · rw [y2 (fun z => h (Or.inr z))]
            exact w2 (fun z => h (Or.inl z))
    refine ⟨(A 0 0).toNat + 1, ?_⟩
    refine key (A 0 0).toNat 0 T6 (by omega) (fun q f q0 q1 f0 f1 => ⟨fun h => ?_, fun _ => g6.at0 q0 q1 f0 f1⟩) (fun _ _ _ _ => rfl)
    obtain ⟨p, a, b, c⟩ := h
    exact absurd b (by omega)
  have key : ∀ (d i : Nat) (T5 : TH), i + d = 56 → (∀ k : Int, 0 ≤ k → k < (i : Int) → T5 13 27 k = fgv (A 4 0) (S 1 0 0 + 1) (T 13 27 k)) → (∀ (o j : Nat) (x : Int), ¬ (o = 13 ∧ j = 27 ∧ 0 ≤ x ∧ x < (i : Int)) → T5 o j x = T1 o j x) → h_X9_pass_13 Q (d + 1) i T5 := by
    intro d
    induction d with
    | zero =>
      intro i T5 hi k1 k2
      have : i = 56 := by omega
      subst this
      rw [h_X9_pass_13]
      exact ⟨by unfold zR; omega, fun _ => fstep T5 k1 k2, fun h => absurd (by omega) h⟩
    | succ d ih =>
      intro i T5 hi k1 k2
      have r5 := rng i (by omega) (by omega)
      have v5 : T5 13 27 i = T 13 27 i := by rw [k2 _ _ _ (by omega), e1 _ _ _ (by omega)]
      have last : ∀ v : Int, v = fgv (A 4 0) (S 1 0 0 + 1) (T 13 27 i) → b_X9_pass_72 Q (h_X9_pass_13 Q (d + 1)) i i v T5 := by
        intro v hv
        refine ⟨by omega, by omega, ?_⟩
        rintro _ rfl
        refine ih (i + 1) _ (by omega) (fun k k0 kk => ?_) (fun o j x hn => ?_)
        · by_cases e : k = i
          · subst e
            rw [up_eq]
            exact hv
          · rw [up_ne (by omega)]
            exact k1 k k0 (by omega)
        · rw [up_ne (by omega)]
          exact k2 _ _ _ (by omega)
      have stay : fgv (A 4 0) (S 1 0 0 + 1) (T 13 27 i) = T 13 27 i → b_X9_pass_66 Q (h_X9_pass_13 Q (d + 1)) i i T5 := fun e => by
        refine ⟨by omega, by omega, ?_⟩
        rw [v5]
        exact last _ e.symm
      rw [h_X9_pass_13, v5, k2 13 25 0 (by omega), e1 13 25 0 (by omega), hL.2.2.2.2.1, k2 13 27 56 (by omega), hh]
      refine ⟨by unfold zR; omega, fun h => absurd h (by omega), fun _ => ⟨by unfold zR; omega, fun h => stay ?_, fun h => ⟨by omega, by omega, by unfold zR; omega, fun h2 => stay ?_, fun h2 => ⟨by omega, by omega, by unfold zR; omega, by unfold zR; omega, fun h3 => stay ?_, fun h3 => last _ ?_⟩⟩⟩⟩
      · unfold fgv
        rw [if_neg (by omega)]
      · unfold fgv
        rw [if_neg (by omega)]
      · unfold fgv
        rw [if_neg (by omega)]
      · unfold fgv
        rw [if_pos (by omega)]
  refine ⟨56 + 1, ?_⟩
  exact key 56 0 T1 (by omega) (fun k k0 kk => by omega) (fun _ _ _ _ => rfl)
