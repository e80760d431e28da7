/-! hour, drift, heavy, when: the calls -/
theorem sp_refusal {T : TH} {A : LA} {S : HA} {n : Int} (h : InvA T A S) (hn : zR n) {Q : Int → TH → Prop} (hq : Q (if ¬ (1 ≤ n ∧ n ≤ 99) then -1000000002 else if A 0 0 = 0 then -1000000003 else if S 1 0 0 ≤ 90000 then 0 else -1000000004) T) : wp_X8_refusalOfHours n T Q := by
  obtain ⟨a1, a2, a3, a4, a5, a6, a7, a8, a9, a10, a11, a12⟩ := h
  have n0 := a3.1
  have s1 := a4.1
  unfold wp_X8_refusalOfHours
  rw [a6.1, a8.1]
  refine ⟨hn, fun q => ?_, fun q => ⟨hn, fun q2 => ⟨by unfold zR; omega, fun q3 => ⟨by unfold zR; omega, fun q4 => ?_, fun q4 => ?_⟩, fun q3 => ?_⟩, fun q2 => ?_⟩⟩
  · rwa [if_pos (by omega)] at hq
  · rwa [if_neg (by omega), if_neg q3, if_pos q4] at hq
  · rwa [if_neg (by omega), if_neg q3, if_neg q4] at hq
  · rwa [if_neg (by omega), if_pos q3] at hq
  · rwa [if_pos (by omega)] at hq
theorem sp9_barred {T : TH} {A : LA} {S : HA} {n : Int} (a3 : LAok A) (a4 : HAok A S 90099) (a5 : LandM T A) (a7 : HeadM T 26 0 S) (hn : zR n) {Q : Int → TH → Prop} (hq : Q (if ¬ (1 ≤ n ∧ n ≤ 99) then -1000000002 else if A 0 0 = 0 then -1000000003 else if S 1 0 0 ≤ 90000 then 0 else -1000000004) T) : wp_X9_barred n T Q := by
  have n0 := a3.1
  have s1 := a4.1
  unfold wp_X9_barred
  refine sp9_in hn (by unfold zR; omega) (by unfold zR; omega) ?_
  rw [a5.1, a7.h0]
  refine dec_tf (fun q => ⟨by unfold zR; omega, fun q3 => ⟨by unfold zR; omega, fun q4 => ?_, fun q4 => ?_⟩, fun q3 => ?_⟩) (fun q => ?_)
  · rwa [if_neg (by omega), if_neg q3, if_pos q4] at hq
  · rwa [if_neg (by omega), if_neg q3, if_neg q4] at hq
  · rwa [if_neg (by omega), if_pos q3] at hq
  · rwa [if_pos (by omega)] at hq
theorem st_hour {T : TH} (H : Inv T) {n : Int} (hn : zR n) : wp_X8_hour n T (fun r1 T1 => wp_X9_hour n T1 (fun r2 T2 => r1 = r2 ∧ zR r1 ∧ Inv T2)) := by
  obtain ⟨A, S, h⟩ := H
  have h0 := h
  obtain ⟨a1, a2, a3, a4, a5, a6, a7, a8, a9, a10, a11, a12⟩ := h
  have h23 := lOK_23 a1
  unfold wp_X8_hour
  refine sp_refusal h0 hn ?_
  by_cases c : (1 ≤ n ∧ n ≤ 99) ∧ ¬ A 0 0 = 0 ∧ S 1 0 0 ≤ 90000
  · obtain ⟨c1, c2, c3⟩ := c
    rw [if_neg (fun z => z c1), if_neg c2, if_pos c3]
    refine ⟨by unfold zR; omega, fun _ => ⟨n.toNat + 1, ?_⟩, fun q => absurd rfl q⟩
    have hS : HAok A S 90000 := ⟨⟨a4.1.1, c3⟩, a4.2⟩
    refine sp_hours8 a3 hn n.toNat 0 T S 90000 (by omega) (by omega) h23 a6 hS a8 (fun T1 S1 x1 x2 x3 => ?_)
    have m1 : LandM T1 A := a5.off (fun j x hj => x3 _ _ _ (by omega))
    have k1 : HeadM T1 26 0 S := a7.eq (fun _ _ _ => x3 _ _ _ (by omega))
    have hS1 : HAok A S1 90099 := (ChF.ok a3 (by simp) hS x2).mono (by omega)
    unfold wp_X9_hour
    refine sp9_barred a3 a4 m1 k1 hn ?_
    rw [if_neg (fun z => z c1), if_neg c2, if_pos c3]
    refine ⟨by unfold zR; omega, fun _ => ?_, fun q => absurd (by decide) q⟩
    refine sp9_copy (by decide) (by decide) (by decide) (by decide) (by decide) (fun T2 d1 d2 => ⟨n.toNat + 1, ?_⟩)
    refine sp9_hours a3 hn n.toNat 0 T2 S 90000 (by omega) (by omega) (m1.off (fun j x hj => d2 _ _ _ (by omega))) hS (k1.eq (fun k y0 y1 => d1 k y0 y1)) x2 (fun T3 y1 y2 => ?_)
    have := hS1.1
    refine ⟨rfl, by unfold zR; omega, A, S1, h0.heads (fun o j i s1 s2 s3 => ?_) hS1 y1 (x1.eq ?_ ?_ (fun _ _ _ => ?_) (fun _ _ _ => ?_))⟩
    · have : ¬ (o = 13 ∧ (j = 27 ∨ j = 28)) := fun z => s1 (by unfold scr; omega)
      rw [y2 _ _ _ (by omega), d2 _ _ _ (by omega), x3 _ _ _ s2]
    all_goals rw [y2 _ _ _ (by omega), d2 _ _ _ (by omega)]
  · have ne : ¬ (if ¬ (1 ≤ n ∧ n ≤ 99) then (-1000000002 : Int) else if A 0 0 = 0 then -1000000003 else if S 1 0 0 ≤ 90000 then 0 else -1000000004) = 0 := by
      split
      · decide
      · split
        · decide
        · split
          · omega
          · decide
    have lt : ¬ 0 ≤ (if ¬ (1 ≤ n ∧ n ≤ 99) then (-1000000002 : Int) else if A 0 0 = 0 then -1000000003 else if S 1 0 0 ≤ 90000 then 0 else -1000000004) := by
      split
      · decide
      · split
        · decide
        · split
          · omega
          · decide
    have rr : zR (if ¬ (1 ≤ n ∧ n ≤ 99) then (-1000000002 : Int) else if A 0 0 = 0 then -1000000003 else if S 1 0 0 ≤ 90000 then 0 else -1000000004) := by
      unfold zR
      split
      · decide
      · split
        · decide
        · split
          · decide
          · decide
    refine ⟨rr, fun q => absurd q ne, fun _ => ?_⟩
    unfold wp_X9_hour
    refine sp9_barred a3 a4 a5 a7 hn ?_
    exact ⟨rr, fun q => absurd q lt, fun _ => ⟨rfl, rr, A, S, h0⟩⟩
theorem st_drift {T : TH} (H : Inv T) {n : Int} (hn : zR n) : wp_X8_drift n T (fun r1 T1 => wp_X9_drift n T1 (fun r2 T2 => r1 = r2 ∧ zR r1 ∧ Inv T2)) := by
  obtain ⟨A, S, h⟩ := H
  have h0 := h
  obtain ⟨a1, a2, a3, a4, a5, a6, a7, a8, a9, a10, a11, a12⟩ := h
  have h23 := lOK_23 a1
  unfold wp_X8_drift
  refine sp_refusal h0 hn ?_
  by_cases c : (1 ≤ n ∧ n ≤ 99) ∧ ¬ A 0 0 = 0 ∧ S 1 0 0 ≤ 90000
  · obtain ⟨c1, c2, c3⟩ := c
    rw [if_neg (fun z => z c1), if_neg c2, if_pos c3]
    refine ⟨by unfold zR; omega, fun _ => ⟨n.toNat + 1, ?_⟩, fun q => absurd rfl q⟩
    have hS : HAok A S 90000 := ⟨⟨a4.1.1, c3⟩, a4.2⟩
    refine sp_drift8 a3 c2 hn n.toNat 0 T S 90000 (by omega) (by omega) h23 a6 hS a8 (fun T1 S1 x1 x2 x3 => ?_)
    have m1 : LandM T1 A := a5.off (fun j x hj => x3 _ _ _ (by omega))
    have k1 : HeadM T1 26 0 S := a7.eq (fun _ _ _ => x3 _ _ _ (by omega))
    have hS1 : HAok A S1 90099 := (ChF.ok a3 (fun _ => c2) hS x2).mono (by omega)
    unfold wp_X9_drift
    refine sp9_barred a3 a4 m1 k1 hn ?_
    rw [if_neg (fun z => z c1), if_neg c2, if_pos c3]
    refine ⟨by unfold zR; omega, fun _ => ?_, fun q => absurd (by decide) q⟩
    refine sp9_copy (by decide) (by decide) (by decide) (by decide) (by decide) (fun T2 d1 d2 => ⟨n.toNat + 1, ?_⟩)
    refine sp9_drift a3 c2 hn n.toNat 0 T2 S 90000 (by omega) (by omega) (m1.off (fun j x hj => d2 _ _ _ (by omega))) hS (k1.eq (fun k y0 y1 => d1 k y0 y1)) x2 (fun T3 y1 y2 => ?_)
    have := hS1.1
    refine ⟨rfl, by unfold zR; omega, A, S1, h0.heads (fun o j i s1 s2 s3 => ?_) hS1 y1 (x1.eq ?_ ?_ (fun _ _ _ => ?_) (fun _ _ _ => ?_))⟩
    · have : ¬ (o = 13 ∧ (j = 27 ∨ j = 28)) := fun z => s1 (by unfold scr; omega)
      rw [y2 _ _ _ (by omega), d2 _ _ _ (by omega), x3 _ _ _ s2]
    all_goals rw [y2 _ _ _ (by omega), d2 _ _ _ (by omega)]
  · have ne : ¬ (if ¬ (1 ≤ n ∧ n ≤ 99) then (-1000000002 : Int) else if A 0 0 = 0 then -1000000003 else if S 1 0 0 ≤ 90000 then 0 else -1000000004) = 0 := by
      split
      · decide
      · split
        · decide
        · split
          · omega
          · decide
    have lt : ¬ 0 ≤ (if ¬ (1 ≤ n ∧ n ≤ 99) then (-1000000002 : Int) else if A 0 0 = 0 then -1000000003 else if S 1 0 0 ≤ 90000 then 0 else -1000000004) := by
      split
      · decide
      · split
        · decide
        · split
          · omega
          · decide
    have rr : zR (if ¬ (1 ≤ n ∧ n ≤ 99) then (-1000000002 : Int) else if A 0 0 = 0 then -1000000003 else if S 1 0 0 ≤ 90000 then 0 else -1000000004) := by
      unfold zR
      split
      · decide
      · split
        · decide
        · split
          · decide
          · decide
    refine ⟨rr, fun q => absurd q ne, fun _ => ?_⟩
    unfold wp_X9_drift
    refine sp9_barred a3 a4 a5 a7 hn ?_
    exact ⟨rr, fun q => absurd q lt, fun _ => ⟨rfl, rr, A, S, h0⟩⟩
theorem sp_heavy8 {A : LA} {n p : Int} {Q : Int → TH → Prop} (hA : LAok A) (p0 : 0 ≤ p) (p1 : p < A 0 0) (hn : zR n) : ∀ (d i : Nat) (T : TH) (S : HA) (M : Int), (i : Int) + d = n → M + d ≤ 1000000 → (T 0 1 0).toNat = 2 ∨ (T 0 1 0).toNat = 3 → LandC T (T 0 1 0).toNat A → HAok A S M → HeadC T 5 S → (∀ T' S', ChF (stepR A false) d S S' → (∀ o' j i, ¬ o' = 5 → T' o' j i = T o' j i) → Q (wtS A S' p) T') → h_X8_heavy_40 p n Q (d + 1) i T := by
  intro d
  induction d with
  | zero =>
    intro i T S M hi hM ho hC hS hH hq
    rw [h_X8_heavy_40]
    refine ⟨by unfold zR at hn ⊢; omega, hn, fun _ => ?_, fun h => absurd (by omega) h⟩
    exact sp_load hA hC hS hH p0 p1 (hq T S rfl (fun _ _ _ _ => rfl))
  | succ d ih =>
    intro i T S M hi hM ho hC hS hH hq
    rw [h_X8_heavy_40]
    refine ⟨by unfold zR at hn ⊢; omega, hn, fun h => absurd h (by omega), fun _ => ?_⟩
    refine sp_passHour hA (by omega) hC (by omega) hS hH (fun T1 S1 c1 c2 c3 => ?_)
    have e01 : T1 0 1 0 = T 0 1 0 := c3 _ _ _ (by omega)
    refine ih (i + 1) T1 S1 (M + 1) (by omega) (by omega) (by rw [e01]; exact ho) (by rw [e01]; exact hC.off (fun j x => c3 _ _ _ (by omega))) (c2.ok hA hS) c1 (fun T' S' x2 x3 => ?_)
    exact hq T' S' ⟨S1, c2, x2⟩ (fun o' j x hn => by rw [x3 _ _ _ hn, c3 _ _ _ (by omega)])
theorem sp9_heavy {A : LA} {n p : Int} {Q : Int → TH → Prop} (hA : LAok A) (hp : zR p) (hn : zR n) {Sn : HA} : ∀ (d i : Nat) (T : TH) (S : HA) (M : Int), (i : Int) + d = n → M + d ≤ 900000 → LandM T A → HAok A S M → HeadM T 27 0 S → ChF (stepR A false) d S Sn → (∀ T', (∀ (o' j : Nat) (i : Int), ¬ (o' = 13 ∧ (j = 27 ∨ j = 28)) → T' o' j i = T o' j i) → Q (wtS A Sn p) T') → h_X9_heavy_39 p n Q (d + 1) i T := by
  intro d
  induction d with
  | zero =>
    intro i T S M hi hM hL hS hH hc hq
    have hc : Sn = S := hc
    subst hc
    rw [h_X9_heavy_39]
    refine ⟨by unfold zR at hn ⊢; omega, hn, fun _ => ?_, fun h => absurd (by omega) h⟩
    exact sp9_weightOf hA hL (by omega) hS hH hp (hq T (fun _ _ _ _ => rfl))
  | succ d ih =>
    intro i T S M hi hM hL hS hH hc hq
    obtain ⟨S1, c1, c2⟩ := hc
    rw [h_X9_heavy_39]
    refine ⟨by unfold zR at hn ⊢; omega, hn, fun h => absurd h (by omega), fun _ => ?_⟩
    refine sp9_pass hA hL (by omega) hS hH c1 (fun T1 x1 x2 => ?_)
    refine ih (i + 1) T1 S1 (M + 1) (by omega) (by omega) (hL.off (fun j x hj => x2 _ _ _ (by omega))) (PassR.ok hA hS c1) x1 c2 (fun T' y2 => hq T' (fun o' j x hn => by rw [y2 _ _ _ hn, x2 _ _ _ (by omega)]))
theorem st_heavy {T : TH} (H : Inv T) {p n : Int} (hp : zR p) (hn : zR n) : wp_X8_heavy p n T (fun r1 T1 => wp_X9_heavy p n T1 (fun r2 T2 => r1 = r2 ∧ zR r1 ∧ Inv T2)) := by
  obtain ⟨A, S, h⟩ := H
  have h0 := h
  obtain ⟨a1, a2, a3, a4, a5, a6, a7, a8, a9, a10, a11, a12⟩ := h
  have h23 := lOK_23 a1
  have out : 0 ≤ p ∧ p < A 0 0 → ¬ (0 ≤ n ∧ n ≤ 99) → wp_X9_heavy p n T (fun r2 T2 => -1000000002 = r2 ∧ zR (-1000000002) ∧ Inv T2) := by
    intro hy hn2
    unfold wp_X9_heavy
    refine sp9_isOne a3 a5 hp ?_
    refine dec_tf (fun _ => ?_) (fun q => absurd hy q)
    refine sp9_in hn (by unfold zR; omega) (by unfold zR; omega) ?_
    exact dec_tf (fun q => absurd q hn2) (fun _ => ⟨rfl, zRo, A, S, h0⟩)
  unfold wp_X8_heavy
  refine sp_hasPerson a3 a6 hp ?_
  refine dec_tf (fun hy => ⟨hn, fun q => out hy (by omega), fun q => ⟨hn, fun q2 => ?_, fun q2 => out hy (by omega)⟩⟩) (fun hno => ?_)
  · refine sp_copyFrom (by decide) a8 (fun T1 c1 c2 => ⟨n.toNat + 1, ?_⟩)
    have e01 : T1 0 1 0 = T 0 1 0 := c2 _ _ _ (by omega)
    refine sp_heavy8 a3 hy.1 hy.2 hn n.toNat 0 T1 S 90099 (by omega) (by omega) (by rw [e01]; exact h23) (by rw [e01]; exact a6.off (fun j x => c2 _ _ _ (by omega))) a4 c1 (fun T2 S2 x2 x3 => ?_)
    have e2 : ∀ o' j i, ¬ o' = 5 → T2 o' j i = T o' j i := fun o' j i hh => by rw [x3 _ _ _ hh, c2 _ _ _ (by omega)]
    have m1 : LandM T2 A := a5.off (fun j x hj => e2 _ _ _ (by omega))
    unfold wp_X9_heavy
    refine sp9_isOne a3 m1 hp ?_
    refine dec_tf (fun _ => ?_) (fun q => absurd hy q)
    refine sp9_in hn (by unfold zR; omega) (by unfold zR; omega) ?_
    refine dec_tf (fun _ => ?_) (fun q => absurd (by omega) q)
    refine sp9_copy (by decide) (by decide) (by decide) (by decide) (by decide) (fun T3 d1 d2 => ⟨n.toNat + 1, ?_⟩)
    have k3 : HeadM T3 27 0 S := a7.eq (fun k k0 k1 => by rw [d1 k k0 k1, e2 _ _ _ (by omega)])
    refine sp9_heavy a3 hp hn n.toNat 0 T3 S 90099 (by omega) (by omega) (m1.off (fun j x hj => d2 _ _ _ (by omega))) a4 k3 x2 (fun T4 y2 => ?_)
    have := wtS_R a3 S2 p
    refine ⟨rfl, by unfold zR; omega, A, S, h0.fr (fun o j i hs => ?_)⟩
    have z1 : ¬ o = 5 := fun z => hs (by unfold scr; omega)
    have z2 : ¬ (o = 13 ∧ (j = 27 ∨ j = 28)) := fun z => hs (by unfold scr; omega)
    rw [y2 _ _ _ z2, d2 _ _ _ (by omega), e2 _ _ _ z1]
  · unfold wp_X9_heavy
    refine sp9_isOne a3 a5 hp ?_
    exact dec_tf (fun q => absurd q hno) (fun _ => ⟨rfl, zRu, A, S, h0⟩)
/-- the answer r of when, n hours from now, d left -/
def whR (A : LA) (p b : Int) : Nat → Nat → HA → Int → Prop
  | 0, _, _, r => r = -1
  | d + 1, i, S, r => (wtS A S p ≤ A 11 b ∧ r = i) ∨ (A 11 b < wtS A S p ∧ ∃ S1, PassR A S S1 ∧ whR A p b d (i + 1) S1 r)
theorem sp_when8 {A : LA} {p b : Int} {Q : Int → TH → Prop} (hA : LAok A) (p0 : 0 ≤ p) (p1 : p < A 0 0) (b0 : 0 ≤ b) (b1 : b < A 3 0) : ∀ (d i : Nat) (T : TH) (S : HA) (M : Int), i + d = 100 → M + d ≤ 1000000 → (T 0 1 0).toNat = 2 ∨ (T 0 1 0).toNat = 3 → LandC T (T 0 1 0).toNat A → HAok A S M → HeadC T 5 S → (∀ T' r, whR A p b d i S r → (-1 ≤ r ∧ r ≤ 100) → (∀ o' j i, ¬ o' = 5 → T' o' j i = T o' j i) → Q r T') → h_X8_when_38 p b Q (d + 1) i T := by
  have nb := hA.2.2.2.1
  have nw := hA.2.2.2.2.2.2.2.2 b b0 b1
  intro d
  induction d with
  | zero =>
    intro i T S M hi hM ho hC hS hH hq
    rw [h_X8_when_38]
    exact ⟨by unfold zR; omega, fun _ => hq T (-1) rfl (by decide) (fun _ _ _ _ => rfl), fun h => absurd (by omega) h⟩
  | succ d ih =>
    intro i T S M hi hM ho hC hS hH hq
    rw [h_X8_when_38]
    refine ⟨by unfold zR; omega, fun h => absurd h (by omega), fun _ => ?_⟩
    refine sp_load hA hC hS hH p0 p1 ?_
    have w := wtS_R hA S p
    rw [hC.2.2.2.2.2.2.2.2.2.2.2 b b0 b1]
    refine ⟨b0, by omega, by unfold zR; omega, by unfold zR; omega, fun hl => ?_, fun hl => hq T i (Or.inl ⟨by omega, rfl⟩) (by omega) (fun _ _ _ _ => rfl)⟩
    refine sp_passHour hA (by omega) hC (by omega) hS hH (fun T1 S1 c1 c2 c3 => ?_)
    have e01 : T1 0 1 0 = T 0 1 0 := c3 _ _ _ (by omega)
    refine ih (i + 1) T1 S1 (M + 1) (by omega) (by omega) (by rw [e01]; exact ho) (by rw [e01]; exact hC.off (fun j x => c3 _ _ _ (by omega))) (c2.ok hA hS) c1 (fun T' r x2 xr x3 => ?_)
    exact hq T' r (Or.inr ⟨hl, S1, c2, x2⟩) xr (fun o' j x hn => by rw [x3 _ _ _ hn, c3 _ _ _ (by omega)])
theorem sp9_when {A : LA} {p b r : Int} {Q : Int → TH → Prop} (hA : LAok A) (hp : zR p) (b0 : 0 ≤ b) (b1 : b < A 3 0) : ∀ (d i : Nat) (T : TH) (S : HA) (M : Int), i + d = 100 → M + d ≤ 900000 → LandM T A → HAok A S M → HeadM T 27 0 S → whR A p b d i S r → (∀ T', (∀ (o' j : Nat) (i : Int), ¬ (o' = 13 ∧ (j = 27 ∨ j = 28)) → T' o' j i = T o' j i) → Q r T') → h_X9_when_34 p b Q (d + 1) i T := by
  have nb := hA.2.2.2.1
  have nw := hA.2.2.2.2.2.2.2.2 b b0 b1
  intro d
  induction d with
  | zero =>
    intro i T S M hi hM hL hS hH hc hq
    have hc : r = -1 := hc
    subst hc
    rw [h_X9_when_34]
    exact ⟨by unfold zR; omega, fun _ => hq T (fun _ _ _ _ => rfl), fun h => absurd (by omega) h⟩
  | succ d ih =>
    intro i T S M hi hM hL hS hH hc hq
    rw [h_X9_when_34]
    refine ⟨by unfold zR; omega, fun h => absurd h (by omega), fun _ => ?_⟩
    refine sp9_weightOf hA hL (by omega) hS hH hp ?_
    have w := wtS_R hA S p
    rw [hL.2.2.2.2.2.2.2.2 b b0 b1]
    refine ⟨b0, by omega, by unfold zR; omega, by unfold zR; omega, fun hl => ?_, fun hl => ?_⟩
    · rcases hc with ⟨c1, c2⟩ | ⟨c1, S1, c2, c3⟩
      · omega
      · refine sp9_pass hA hL (by omega) hS hH c2 (fun T1 x1 x2 => ?_)
        exact ih (i + 1) T1 S1 (M + 1) (by omega) (by omega) (hL.off (fun j x hj => x2 _ _ _ (by omega))) (PassR.ok hA hS c2) x1 c3 (fun T' y2 => hq T' (fun o' j x hn => by rw [y2 _ _ _ hn, x2 _ _ _ (by omega)]))
    · rcases hc with ⟨c1, c2⟩ | ⟨c1, S1, c2, c3⟩
      · subst c2
        exact hq T (fun _ _ _ _ => rfl)
      · omega
theorem st_when {T : TH} (H : Inv T) {p b : Int} (hp : zR p) (hb : zR b) : wp_X8_when p b T (fun r1 T1 => wp_X9_when p b T1 (fun r2 T2 => r1 = r2 ∧ zR r1 ∧ Inv T2)) := by
  obtain ⟨A, S, h⟩ := H
  have h0 := h
  obtain ⟨a1, a2, a3, a4, a5, a6, a7, a8, a9, a10, a11, a12⟩ := h
  have h23 := lOK_23 a1
  have out : ¬ ((0 ≤ p ∧ p < A 0 0) ∧ (0 ≤ b ∧ b < A 3 0)) → wp_X9_when p b T (fun r2 T2 => -1000000001 = r2 ∧ zR (-1000000001) ∧ Inv T2) := by
    intro hno
    unfold wp_X9_when
    refine sp9_isOne a3 a5 hp ?_
    refine dec_ft (fun _ => ⟨rfl, zRu, A, S, h0⟩) (fun hy => ?_)
    refine sp9_isBridge a3 a5 hb ?_
    exact dec_tf (fun q => absurd ⟨hy, q⟩ hno) (fun _ => ⟨rfl, zRu, A, S, h0⟩)
  unfold wp_X8_when
  refine sp_hasPerson a3 a6 hp ?_
  refine dec_ft (fun hno => out (fun z => hno z.1)) (fun hy => ?_)
  refine sp_hasBridge a3 a6 hb ?_
  refine dec_tf (fun hy2 => ?_) (fun hno => out (fun z => hno z.2))
  refine sp_copyFrom (by decide) a8 (fun T1 c1 c2 => ⟨100 + 1, ?_⟩)
  have e01 : T1 0 1 0 = T 0 1 0 := c2 _ _ _ (by omega)
  refine sp_when8 a3 hy.1 hy.2 hy2.1 hy2.2 100 0 T1 S 90099 (by omega) (by omega) (by rw [e01]; exact h23) (by rw [e01]; exact a6.off (fun j x => c2 _ _ _ (by omega))) a4 c1 (fun T2 r x2 xr x3 => ?_)
  have e2 : ∀ o' j i, ¬ o' = 5 → T2 o' j i = T o' j i := fun o' j i hh => by rw [x3 _ _ _ hh, c2 _ _ _ (by omega)]
  have m1 : LandM T2 A := a5.off (fun j x hj => e2 _ _ _ (by omega))
  unfold wp_X9_when
  refine sp9_isOne a3 m1 hp ?_
  refine dec_ft (fun q => absurd hy q) (fun _ => ?_)
  refine sp9_isBridge a3 m1 hb ?_
  refine dec_tf (fun _ => ?_) (fun q => absurd hy2 q)
  refine sp9_copy (by decide) (by decide) (by decide) (by decide) (by decide) (fun T3 d1 d2 => ⟨100 + 1, ?_⟩)
  have k3 : HeadM T3 27 0 S := a7.eq (fun k k0 k1 => by rw [d1 k k0 k1, e2 _ _ _ (by omega)])
  refine sp9_when a3 hp hy2.1 hy2.2 100 0 T3 S 90099 (by omega) (by omega) (m1.off (fun j x hj => d2 _ _ _ (by omega))) a4 k3 x2 (fun T4 y2 => ?_)
  refine ⟨rfl, by unfold zR; omega, A, S, h0.fr (fun o j i hs => ?_)⟩
  have z1 : ¬ o = 5 := fun z => hs (by unfold scr; omega)
  have z2 : ¬ (o = 13 ∧ (j = 27 ∨ j = 28)) := fun z => hs (by unfold scr; omega)
  rw [y2 _ _ _ z2, d2 _ _ _ (by omega), e2 _ _ _ z1]
