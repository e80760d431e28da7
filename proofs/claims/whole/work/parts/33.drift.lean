/-! hour, drift, heavy, when -/
def lcg (s : Int) : Int := (s * 1103515245 + 12345) % 2147483648
theorem lcg_R (s : Int) : 0 ≤ lcg s ∧ lcg s ≤ 2147483647 := by unfold lcg; omega
def drS (A : LA) (S : HA) : HA :=
  if A 1 0 = 0 then setK S 2 (lcg (S 2 0 0))
  else setS (setK S 2 (lcg (lcg (S 2 0 0)))) (lcg (S 2 0 0) / 65536 % A 0 0) (lcg (lcg (S 2 0 0)) / 65536 % A 1 0) (if S 0 (lcg (S 2 0 0) / 65536 % A 0 0) (lcg (lcg (S 2 0 0)) / 65536 % A 1 0) ≠ -1 then -1 else S 1 0 0)
/-- n steps, each a relation -/
def ChF (R : HA → HA → Prop) : Nat → HA → HA → Prop
  | 0, S, S' => S' = S
  | n + 1, S, S' => ∃ S1, R S S1 ∧ ChF R n S1 S'
theorem HAok.mono {A : LA} {S : HA} {M M' : Int} (h : HAok A S M) (hm : M ≤ M') : HAok A S M' := ⟨⟨h.1.1, by have := h.1.2; omega⟩, h.2⟩
theorem HAok.seed {A : LA} {S : HA} {M v : Int} (h : HAok A S M) (h0 : 0 ≤ v) (h1 : v ≤ 2147483647) : HAok A (setK S 2 v) M := by
  obtain ⟨a, b, c⟩ := h
  refine ⟨by rw [setK_ne (by decide)]; exact a, by rw [setK_hit]; exact ⟨h0, h1⟩, fun p f p0 p1 f0 f1 => ?_⟩
  rw [setK_ne (by decide), setK_0 (by decide)]
  exact c p f p0 p1 f0 f1
theorem drS_ok {A : LA} {S : HA} {M : Int} (hA : LAok A) (h0 : A 0 0 ≠ 0) (h : HAok A S M) : HAok A (drS A S) M := by
  have n0 := hA.1
  have n1 := hA.2.1
  unfold drS
  split
  · exact h.seed (lcg_R _).1 (lcg_R _).2
  · refine (h.seed (lcg_R _).1 (lcg_R _).2).set ?_
    rw [setK_ne (by decide)]
    have b1 : 0 ≤ S 1 0 0 := h.1.1
    have r1 := Int.emod_lt_of_pos (lcg (S 2 0 0) / 65536) (by omega : 0 < A 0 0)
    have r2 := Int.emod_lt_of_pos (lcg (lcg (S 2 0 0)) / 65536) (by omega : 0 < A 1 0)
    split
    · exact Or.inl rfl
    · exact Or.inr ⟨r1, r2, b1, Int.le_refl _⟩
theorem HeadC.seed {T : TH} {o : Nat} {S : HA} {v : Int} (h : HeadC T o S) : HeadC (up T o 1 0 v) o (setK S 2 v) := by
  obtain ⟨h1, h2, h3, h4⟩ := h
  refine ⟨by rw [up_ne (by omega), setK_ne (by decide)]; exact h1, by rw [up_eq, setK_hit], fun f f0 f1 => ?_, fun p f p0 p1 f0 f1 hk => ?_⟩
  · rw [up_ne (by omega)]
    refine ⟨(h3 f f0 f1).1, fun p p0 p1 => ?_⟩
    rw [setK_0 (by decide)]
    exact (h3 f f0 f1).2 p p0 p1
  · rw [setK_0 (by decide)] at hk ⊢
    rw [up_ne (by omega)]
    exact h4 p f p0 p1 f0 f1 hk
theorem HeadM.seed {T : TH} {j : Nat} {S : HA} {v : Int} (h : HeadM T j 0 S) : HeadM (up T 13 j 57 v) j 0 (setK S 2 v) := by
  obtain ⟨h1, h2, h3⟩ := h
  refine ⟨fun p f p0 p1 f0 f1 => ?_, ?_, ?_⟩
  · rw [up_ne (by omega), setK_0 (by decide)]
    exact h1 p f p0 p1 f0 f1
  · rw [up_ne (by omega), setK_ne (by decide)]
    exact h2
  · show up T 13 j 57 v 13 j 57 = _
    rw [up_eq, setK_hit]
theorem sp_drawOf {A : LA} {T : TH} {S : HA} {o : Nat} {M n : Int} (hS : HAok A S M) (hH : HeadC T o S) (n0 : 0 < n) (n1 : n ≤ 2147483647) {Q : Int → TH → Prop} (hq : ∀ T', HeadC T' o (setK S 2 (lcg (S 2 0 0))) → (∀ o' j i, ¬ (o' = o ∧ j = 1) → T' o' j i = T o' j i) → Q (lcg (S 2 0 0) / 65536 % n) T') : wp_X2_drawOf o n T Q := by
  have s2 := hS.2.1
  have hl := lcg_R (S 2 0 0)
  unfold wp_X2_drawOf
  rw [hH.2.1, zland_n (by omega) (by omega)]
  refine ⟨by unfold zR; omega, ?_⟩
  rintro _ rfl
  refine ⟨by unfold zR; omega, fun h => absurd h (by omega), fun _ => ⟨by unfold zR; omega, by omega, ?_⟩⟩
  rw [up_eq]
  show Q (zrem (zdiv (lcg (S 2 0 0)) 65536) n) _
  rw [zdiv_n hl.1 hl.2 (by decide) (by decide), zrem_n (by omega) (by omega) n0 n1]
  exact hq _ hH.seed (fun o' j i hn => up_ne (by omega))
theorem sp9_draw {A : LA} {T : TH} {S : HA} {M n : Int} (hS : HAok A S M) (hH : HeadM T 27 0 S) (n0 : 0 < n) (n1 : n ≤ 2147483647) {Q : Int → TH → Prop} (hq : ∀ T', HeadM T' 27 0 (setK S 2 (lcg (S 2 0 0))) → (∀ (o' j : Nat) (i : Int), ¬ (o' = 13 ∧ j = 27) → T' o' j i = T o' j i) → Q (lcg (S 2 0 0) / 65536 % n) T') : wp_X9_draw n T Q := by
  have s2 := hS.2.1
  have hl := lcg_R (S 2 0 0)
  unfold wp_X9_draw
  rw [hH.s0, zremL_n (by omega) (by omega) (by decide) (by decide)]
  refine ⟨by unfold zR; omega, ?_⟩
  rintro _ rfl
  refine ⟨by unfold zR; omega, by omega, ?_⟩
  rw [up_eq]
  show Q (zrem (zdiv (lcg (S 2 0 0)) 65536) n) _
  rw [zdiv_n hl.1 hl.2 (by decide) (by decide), zrem_n (by omega) (by omega) n0 n1]
  exact hq _ hH.seed (fun o' j i hn => up_ne (by omega))
theorem sp_change {A : LA} {T : TH} {S : HA} {o l : Nat} {M : Int} (hA : LAok A) (h0 : A 0 0 ≠ 0) (hol : l ≠ o) (hC : LandC T l A) (hS : HAok A S M) (hH : HeadC T o S) {Q : TH → Prop} (hq : ∀ T', HeadC T' o (drS A S) → (∀ o' j i, ¬ (o' = o ∧ (j = 1 ∨ j = 2 ∨ j = 4)) → T' o' j i = T o' j i) → Q T') : wp_X2_changeByDraws o l T Q := by
  have n0 := hA.1
  have n1 := hA.2.1
  unfold wp_X2_changeByDraws
  rw [hC.1]
  refine sp_drawOf hS hH (by omega) (by omega) (fun T1 c1 c2 => ?_)
  rw [c2 l 1 0 (by omega), hC.2.1]
  have hS1 : HAok A (setK S 2 (lcg (S 2 0 0))) M := hS.seed (lcg_R _).1 (lcg_R _).2
  refine ⟨by unfold zR; omega, fun e => ?_, fun e => ?_⟩
  · refine sp_drawOf hS1 c1 (by omega) (by omega) (fun T2 d1 d2 => ?_)
    rw [setK_hit] at d1 ⊢
    have r1 := Int.emod_lt_of_pos (lcg (S 2 0 0) / 65536) (by omega : 0 < A 0 0)
    have r2 := Int.emod_lt_of_pos (lcg (lcg (S 2 0 0)) / 65536) (by omega : 0 < A 1 0)
    have r3 := Int.emod_nonneg (lcg (S 2 0 0) / 65536) (by omega : A 0 0 ≠ 0)
    have r4 := Int.emod_nonneg (lcg (lcg (S 2 0 0)) / 65536) (by omega : A 1 0 ≠ 0)
    have hd : HeadC T2 o (setK S 2 (lcg (lcg (S 2 0 0)))) := d1.cg (by rw [setK_ne (by decide), setK_ne (by decide), setK_ne (by decide)]) (by rw [setK_hit, setK_hit]) (fun p f _ _ _ _ => by rw [setK_0 (by decide), setK_0 (by decide), setK_0 (by decide)])
    refine sp_knows hd r3 (by omega) r4 (by omega) ?_
    rw [setK_0 (by decide)]
    refine dec_ft (fun hk => ?_) (fun hk => ?_)
    · refine sp_learn hd (by rw [setK_ne (by decide)]; exact hS.1.1) r3 (by omega) r4 (by omega) (fun T3 x1 x2 => ?_)
      refine hq T3 ?_ (fun o' j i hn => by rw [x2 _ _ _ (by omega), d2 _ _ _ (by omega), c2 _ _ _ (by omega)])
      unfold drS
      rw [if_neg e, if_neg hk]
      rwa [setK_ne (by decide)] at x1
    · refine sp_lose hd r3 (by omega) r4 (by omega) (fun T3 x1 x2 => ?_)
      refine hq T3 ?_ (fun o' j i hn => by rw [x2 _ _ _ (by omega), d2 _ _ _ (by omega), c2 _ _ _ (by omega)])
      unfold drS
      rw [if_neg e, if_pos hk]
      exact x1
  · refine hq T1 ?_ (fun o' j i hn => c2 _ _ _ (by omega))
    unfold drS
    rw [if_pos e]
    exact c1
/-- one step of hours: with draws or without -/
def stepR (A : LA) (dr : Bool) (S S' : HA) : Prop := PassR A (bif dr then drS A S else S) S'
theorem stepR.ok {A : LA} {S S2 : HA} {M : Int} {dr : Bool} (hA : LAok A) (h0 : dr = true → A 0 0 ≠ 0) (h : HAok A S M) (hp : stepR A dr S S2) : HAok A S2 (M + 1) := by
  cases dr with
  | false => exact PassR.ok hA h hp
  | true => exact PassR.ok hA (drS_ok hA (h0 rfl) h) hp
theorem ChF.ok {A : LA} {dr : Bool} (hA : LAok A) (h0 : dr = true → A 0 0 ≠ 0) : ∀ {n : Nat} {S S2 : HA} {M : Int}, HAok A S M → ChF (stepR A dr) n S S2 → HAok A S2 (M + n)
  | 0, S, S2, M, h, hp => by
    have hp : S2 = S := hp
    subst hp
    exact h.mono (by omega)
  | n + 1, S, S2, M, h, hp => by
    obtain ⟨S1, a, b⟩ := hp
    exact (ChF.ok hA h0 (a.ok hA h0 h) b).mono (by omega)
theorem sp_hours8 {A : LA} {n : Int} {Q : Int → TH → Prop} (hA : LAok A) (hn : zR n) : ∀ (d i : Nat) (T : TH) (S : HA) (M : Int), (i : Int) + d = n → M + d ≤ 1000000 → (T 0 1 0).toNat = 2 ∨ (T 0 1 0).toNat = 3 → LandC T (T 0 1 0).toNat A → HAok A S M → HeadC T 4 S → (∀ T' S', HeadC T' 4 S' → ChF (stepR A false) d S S' → (∀ o' j i, ¬ o' = 4 → T' o' j i = T o' j i) → Q (S' 1 0 0) T') → h_X8_hour_14 n Q (d + 1) i T := by
  intro d
  induction d with
  | zero =>
    intro i T S M hi hM ho hC hS hH hq
    rw [h_X8_hour_14, hH.1]
    exact ⟨by unfold zR at hn ⊢; omega, hn, fun _ => hq T S hH rfl (fun _ _ _ _ => rfl), fun h => absurd (by omega) h⟩
  | succ d ih =>
    intro i T S M hi hM ho hC hS hH hq
    rw [h_X8_hour_14]
    refine ⟨by unfold zR at hn ⊢; omega, hn, fun h => absurd h (by omega), fun _ => ?_⟩
    refine sp_passHour hA (by omega) hC (by omega) hS hH (fun T1 S1 c1 c2 c3 => ?_)
    have e01 : T1 0 1 0 = T 0 1 0 := c3 _ _ _ (by omega)
    refine ih (i + 1) T1 S1 (M + 1) (by omega) (by omega) (by rw [e01]; exact ho) (by rw [e01]; exact hC.off (fun j x => c3 _ _ _ (by omega))) (c2.ok hA hS) c1 (fun T' S' x1 x2 x3 => ?_)
    exact hq T' S' x1 ⟨S1, c2, x2⟩ (fun o' j x hn => by rw [x3 _ _ _ hn, c3 _ _ _ (by omega)])
theorem sp_drift8 {A : LA} {n : Int} {Q : Int → TH → Prop} (hA : LAok A) (hA0 : A 0 0 ≠ 0) (hn : zR n) : ∀ (d i : Nat) (T : TH) (S : HA) (M : Int), (i : Int) + d = n → M + d ≤ 1000000 → (T 0 1 0).toNat = 2 ∨ (T 0 1 0).toNat = 3 → LandC T (T 0 1 0).toNat A → HAok A S M → HeadC T 4 S → (∀ T' S', HeadC T' 4 S' → ChF (stepR A true) d S S' → (∀ o' j i, ¬ o' = 4 → T' o' j i = T o' j i) → Q (S' 1 0 0) T') → h_X8_drift_14 n Q (d + 1) i T := by
  intro d
  induction d with
  | zero =>
    intro i T S M hi hM ho hC hS hH hq
    rw [h_X8_drift_14, hH.1]
    exact ⟨by unfold zR at hn ⊢; omega, hn, fun _ => hq T S hH rfl (fun _ _ _ _ => rfl), fun h => absurd (by omega) h⟩
  | succ d ih =>
    intro i T S M hi hM ho hC hS hH hq
    rw [h_X8_drift_14]
    refine ⟨by unfold zR at hn ⊢; omega, hn, fun h => absurd h (by omega), fun _ => ?_⟩
    refine sp_change hA hA0 (by omega) hC hS hH (fun T0 b1 b2 => ?_)
    have e00 : T0 0 1 0 = T 0 1 0 := b2 _ _ _ (by omega)
    rw [e00]
    refine sp_passHour hA (by omega) (hC.off (fun j x => b2 _ _ _ (by omega))) (by omega) (drS_ok hA hA0 hS) b1 (fun T1 S1 c1 c2 c3 => ?_)
    have e01 : T1 0 1 0 = T 0 1 0 := by rw [c3 _ _ _ (by omega), e00]
    refine ih (i + 1) T1 S1 (M + 1) (by omega) (by omega) (by rw [e01]; exact ho) (by rw [e01]; exact hC.off (fun j x => by rw [c3 _ _ _ (by omega), b2 _ _ _ (by omega)])) (c2.ok hA (drS_ok hA hA0 hS)) c1 (fun T' S' x1 x2 x3 => ?_)
    exact hq T' S' x1 ⟨S1, c2, x2⟩ (fun o' j x hn => by rw [x3 _ _ _ hn, c3 _ _ _ (by omega), b2 _ _ _ (by omega)])
theorem sp9_hours {A : LA} {n : Int} {Q : Int → TH → Prop} (hA : LAok A) (hn : zR n) {Sn : HA} : ∀ (d i : Nat) (T : TH) (S : HA) (M : Int), (i : Int) + d = n → M + d ≤ 900000 → LandM T A → HAok A S M → HeadM T 27 0 S → ChF (stepR A false) d S Sn → (∀ T', HeadM T' 26 0 Sn → (∀ (o' j : Nat) (i : Int), ¬ (o' = 13 ∧ (j = 26 ∨ j = 27 ∨ j = 28)) → T' o' j i = T o' j i) → Q (Sn 1 0 0) T') → h_X9_hour_27 n Q (d + 1) i T := by
  intro d
  induction d with
  | zero =>
    intro i T S M hi hM hL hS hH hc hq
    have hc : Sn = S := hc
    subst hc
    rw [h_X9_hour_27]
    refine ⟨by unfold zR at hn ⊢; omega, hn, fun _ => ?_, fun h => absurd (by omega) h⟩
    refine sp9_copy (by decide) (by decide) (by decide) (by decide) (by decide) (fun T3 d1 d2 => ?_)
    have h3 : HeadM T3 26 0 Sn := hH.eq (fun k k0 k1 => d1 k k0 k1)
    rw [h3.h0]
    exact hq T3 h3 (fun o' j x hn => d2 _ _ _ (by omega))
  | succ d ih =>
    intro i T S M hi hM hL hS hH hc hq
    obtain ⟨S1, c1, c2⟩ := hc
    rw [h_X9_hour_27]
    refine ⟨by unfold zR at hn ⊢; omega, hn, fun h => absurd h (by omega), fun _ => ?_⟩
    refine sp9_pass hA hL (by omega) hS hH c1 (fun T1 x1 x2 => ?_)
    refine ih (i + 1) T1 S1 (M + 1) (by omega) (by omega) (hL.off (fun j x hj => x2 _ _ _ (by omega))) (PassR.ok hA hS c1) x1 c2 (fun T' y1 y2 => hq T' y1 (fun o' j x hn => by rw [y2 _ _ _ hn, x2 _ _ _ (by omega)]))
theorem sp9_drift {A : LA} {n : Int} {Q : Int → TH → Prop} (hA : LAok A) (hA0 : A 0 0 ≠ 0) (hn : zR n) {Sn : HA} : ∀ (d i : Nat) (T : TH) (S : HA) (M : Int), (i : Int) + d = n → M + d ≤ 900000 → LandM T A → HAok A S M → HeadM T 27 0 S → ChF (stepR A true) d S Sn → (∀ T', HeadM T' 26 0 Sn → (∀ (o' j : Nat) (i : Int), ¬ (o' = 13 ∧ (j = 26 ∨ j = 27 ∨ j = 28)) → T' o' j i = T o' j i) → Q (Sn 1 0 0) T') → h_X9_drift_27 n Q (d + 1) i T := by
  intro d
  have n0 := hA.1
  have n1 := hA.2.1
  induction d with
  | zero =>
    intro i T S M hi hM hL hS hH hc hq
    have hc : Sn = S := hc
    subst hc
    rw [h_X9_drift_27]
    refine ⟨by unfold zR at hn ⊢; omega, hn, fun _ => ?_, fun h => absurd (by omega) h⟩
    refine sp9_copy (by decide) (by decide) (by decide) (by decide) (by decide) (fun T3 d1 d2 => ?_)
    have h3 : HeadM T3 26 0 Sn := hH.eq (fun k k0 k1 => d1 k k0 k1)
    rw [h3.h0]
    exact hq T3 h3 (fun o' j x hn => d2 _ _ _ (by omega))
  | succ d ih =>
    intro i T S M hi hM hL hS hH hc hq
    obtain ⟨S1, c1, c2⟩ := hc
    have c1 : PassR A (drS A S) S1 := c1
    have dok := drS_ok hA hA0 hS
    have pas : ∀ T4, HeadM T4 27 0 (drS A S) → (∀ (o' j : Nat) (i : Int), ¬ (o' = 13 ∧ j = 27) → T4 o' j i = T o' j i) → b_X9_drift_97 n Q (h_X9_drift_27 n Q (d + 1)) i T4 := by
      intro T4 g1 g2
      unfold b_X9_drift_97
      refine sp9_pass hA (hL.off (fun j x hj => g2 _ _ _ (by omega))) (by omega) dok g1 c1 (fun T1 x1 x2 => ?_)
      refine ih (i + 1) T1 S1 (M + 1) (by omega) (by omega) (hL.off (fun j x hj => by rw [x2 _ _ _ (by omega), g2 _ _ _ (by omega)])) (PassR.ok hA dok c1) x1 c2 (fun T' y1 y2 => hq T' y1 (fun o' j x hn => by rw [y2 _ _ _ hn, x2 _ _ _ (by omega), g2 _ _ _ (by omega)]))
    rw [h_X9_drift_27, hL.1]
    refine ⟨by unfold zR at hn ⊢; omega, hn, fun h => absurd h (by omega), fun _ => ?_⟩
    refine sp9_draw hS hH (by omega) (by omega) (fun T1 x1 x2 => ?_)
    have hS1 : HAok A (setK S 2 (lcg (S 2 0 0))) M := hS.seed (lcg_R _).1 (lcg_R _).2
    rw [x2 13 18 0 (by omega), hL.2.1]
    refine ⟨by unfold zR; omega, fun e => ?_, fun e => ?_⟩
    · have e : A 1 0 = 0 := by omega
      refine pas T1 ?_ x2
      unfold drS
      rw [if_pos e]
      exact x1
    · refine sp9_draw hS1 x1 (by omega) (by omega) (fun T2 y1 y2 => ?_)
      rw [setK_hit] at y1 ⊢
      have e : ¬ A 1 0 = 0 := by omega
      have r1 := Int.emod_lt_of_pos (lcg (S 2 0 0) / 65536) (by omega : 0 < A 0 0)
      have r2 := Int.emod_lt_of_pos (lcg (lcg (S 2 0 0)) / 65536) (by omega : 0 < A 1 0)
      have r3 := Int.emod_nonneg (lcg (S 2 0 0) / 65536) (by omega : A 0 0 ≠ 0)
      have r4 := Int.emod_nonneg (lcg (lcg (S 2 0 0)) / 65536) (by omega : A 1 0 ≠ 0)
      have hd : HeadM T2 27 0 (setK S 2 (lcg (lcg (S 2 0 0)))) := by
        obtain ⟨z1, z2, z3⟩ := y1
        refine ⟨fun p f p0 p1 f0 f1 => ?_, ?_, ?_⟩
        · rw [z1 p f p0 p1 f0 f1, setK_0 (by decide), setK_0 (by decide), setK_0 (by decide)]
        · rw [z2, setK_ne (by decide), setK_ne (by decide), setK_ne (by decide)]
        · rw [z3, setK_hit, setK_hit]
      have hSd : HAok A (setK S 2 (lcg (lcg (S 2 0 0)))) M := hS.seed (lcg_R _).1 (lcg_R _).2
      refine sp9_knows (by omega) hSd hd r3 (by omega) r4 (by omega) ?_
      rw [setK_0 (by decide)]
      refine dec_ft (fun hk => ⟨by omega, by omega, ?_⟩) (fun hk => ⟨by omega, by omega, ?_⟩)
      · rintro _ rfl
        rw [hd.h0, setK_ne (by decide)]
        refine pas _ ?_ (fun o' j x hn => by rw [up_ne (by omega), y2 _ _ _ hn, x2 _ _ _ hn])
        unfold drS
        rw [if_neg e, if_neg hk]
        exact hd.put0 r3 (by omega) r4 (by omega)
      · rintro _ rfl
        refine pas _ ?_ (fun o' j x hn => by rw [up_ne (by omega), y2 _ _ _ hn, x2 _ _ _ hn])
        unfold drS
        rw [if_neg e, if_pos hk]
        exact hd.put0 r3 (by omega) r4 (by omega)
