/-! person, feed, images -/
theorem sp9_friendsOf {A : LA} {T : TH} (hA : LAok A) (hL : LandM T A) {p : Int} {Q : Int → TH → Prop} (hp : zR p) (hq : ∀ s, ms 7 s → (∀ q, 0 ≤ q → q < 7 → bt s q = frB A p q) → Q s T) : wp_X9_friendsOf p T Q := by
  unfold wp_X9_friendsOf
  have a0 := hA.1
  have a2 := hA.2.2.1
  refine ⟨(A 2 0).toNat + 1, ?_⟩
  have key : ∀ (d i : Nat) (s : Int), i + d = (A 2 0).toNat → ms 7 s → (∀ q, 0 ≤ q → bt s q = anyZ (fun k => decide ((A 9 k = p ∧ A 10 k = q) ∨ (A 10 k = p ∧ A 9 k = q))) i) → h_X9_friendsOf_4 p Q (d + 1) s i T := by
    intro d
    induction d with
    | zero =>
      intro i s hi h1 h2
      rw [h_X9_friendsOf_4, hL.2.2.1]
      refine ⟨by unfold zR; omega, by unfold zR; omega, fun _ => ?_, fun h => absurd (by omega) h⟩
      refine hq s h1 (fun q q0 q1 => ?_)
      rw [h2 q q0]
      unfold frB
      rw [show i = (A 2 0).toNat by omega]
    | succ d ih =>
      intro i s hi h1 h2
      obtain ⟨r9, r10, hne⟩ := hA.2.2.2.2.2.2.2.1 i (by omega) (by omega)
      obtain ⟨m9, m10⟩ := hL.2.2.2.2.2.2.2.1 i (by omega) (by omega)
      have fin : ∀ s1 s2 : Int, ms 7 s1 → (∀ q, 0 ≤ q → bt s1 q = (bt s q || decide (A 9 i = p ∧ A 10 i = q))) → s2 = zor s1 (if A 10 i = p then zshl 1 (A 9 i) else 0) → h_X9_friendsOf_4 p Q (d + 1) s2 (i + 1) T := by
        intro s1 s2 k1 k2 k3
        have main : ms 7 s2 ∧ ∀ q, 0 ≤ q → bt s2 q = (bt s1 q || decide (A 10 i = p ∧ A 9 i = q)) := by
          rw [k3]
          by_cases e : A 10 i = p
          · rw [if_pos e]
            obtain ⟨t1, t2⟩ := put_b (k := A 9 i) k1 (by omega) (by omega : A 9 i < (7 : Nat)) (by decide)
            refine ⟨t1, fun q q0 => ?_⟩
            rw [t2 q q0]
            congr 1
            exact decide_eq_decide.mpr ⟨fun z => ⟨e, z.symm⟩, fun z => z.2.symm⟩
          · rw [if_neg e, zor_0 k1 (by decide)]
            refine ⟨k1, fun q q0 => ?_⟩
            rw [decide_eq_false (fun z => e z.1), Bool.or_false]
        have := ih (i + 1) s2 (by omega) main.1 (fun q q0 => by
          rw [main.2 q q0, k2 q q0, h2 q q0, anyZ, Bool.or_assoc]
          congr 1
          by_cases x1 : A 9 i = p ∧ A 10 i = q <;> by_cases x2 : A 10 i = p ∧ A 9 i = q <;> simp [x1, x2])
        exact this
      rw [h_X9_friendsOf_4, hL.2.2.1]
      refine ⟨by unfold zR; omega, by unfold zR; omega, fun h => absurd h (by omega), fun _ => ?_⟩
      rw [m9, m10]
      refine ⟨by omega, by omega, by unfold zR; omega, hp, fun e => ?_, fun e => ?_⟩
      · show ∀ w1 : Int, w1 = _ → _
        rintro _ rfl
        rw [m9, m10, zor_0 h1 (by decide)]
        have k2 : ∀ q, 0 ≤ q → bt s q = (bt s q || decide (A 9 i = p ∧ A 10 i = q)) := fun q _ => by rw [decide_eq_false (fun z => e z.1), Bool.or_false]
        refine ⟨by omega, by omega, by unfold zR; omega, hp, fun e2 => ?_, fun e2 => ⟨by omega, by omega, ?_⟩⟩
        · show ∀ w1 : Int, w1 = _ → _
          rintro _ rfl
          exact fin s _ h1 k2 (by rw [if_neg e2])
        · show ∀ w1 : Int, w1 = _ → _
          rintro _ rfl
          exact fin s _ h1 k2 (by rw [if_pos e2])
      · refine ⟨by omega, by omega, ?_⟩
        show ∀ w1 : Int, w1 = _ → _
        rintro _ rfl
        rw [m9, m10]
        obtain ⟨t1, t2⟩ := put_b (k := A 10 i) h1 (by omega) (by omega : A 10 i < (7 : Nat)) (by decide)
        have k2 : ∀ q, 0 ≤ q → bt (zor s (zshl 1 (A 10 i))) q = (bt s q || decide (A 9 i = p ∧ A 10 i = q)) := fun q q0 => by
          rw [t2 q q0]
          congr 1
          exact decide_eq_decide.mpr ⟨fun z => ⟨e, z.symm⟩, fun z => z.2.symm⟩
        refine ⟨by omega, by omega, by unfold zR; omega, hp, fun e2 => ?_, fun e2 => ⟨by omega, by omega, ?_⟩⟩
        · show ∀ w1 : Int, w1 = _ → _
          rintro _ rfl
          exact fin _ _ t1 k2 (by rw [if_neg e2])
        · show ∀ w1 : Int, w1 = _ → _
          rintro _ rfl
          exact fin _ _ t1 k2 (by rw [if_pos e2])
  exact key (A 2 0).toNat 0 0 (by omega) (ms_0 7) (fun q _ => by rw [bt_0, anyZ])
theorem st_person {T : TH} (H : Inv T) {p w : Int} (hp : zR p) (hw : zR w) : wp_X8_person p w T (fun r1 T1 => wp_X9_person p w T1 (fun r2 T2 => r1 = r2 ∧ zR r1 ∧ Inv T2)) := by
  obtain ⟨A, S, h⟩ := H
  have h0 := h
  obtain ⟨a1, a2, a3, a4, a5, a6, a7, a8, a9, a10, a11, a12⟩ := h
  have n7 := a3.1
  have n8 := a3.2.1
  have ref : ∀ r : Int, zR r → (¬ (0 ≤ p ∧ p < A 0 0) → r = -1000000001) → (0 ≤ p ∧ p < A 0 0 → (w = 0 → ms 7 r ∧ ∀ q, 0 ≤ q → q < 7 → bt r q = frB A p q) ∧ (w = 1 → r = mkS (fun f => decide (A 6 f = p)) (A 1 0).toNat) ∧ (w = 2 → r = mkS (fun f => decide (S 0 p f ≠ -1)) (A 1 0).toNat) ∧ (w = 3 → r = zi (bt (A 5 0) p)) ∧ ((w < 0 ∨ 3 < w) → r = -1000000002)) → wp_X9_person p w T (fun r2 T2 => r = r2 ∧ zR r ∧ Inv T2) := by
    intro r hr e0 e1
    unfold wp_X9_person
    refine sp9_isOne a3 a5 hp ?_
    refine dec_tf (fun q => ?_) (fun q => ⟨e0 q, hr, A, S, h0⟩)
    obtain ⟨k0, k1, k2, k3, k4⟩ := e1 q
    refine ⟨(A 1 0).toNat + 1, ?_⟩
    have key : ∀ (d i : Nat), i + d = (A 1 0).toNat → h_X9_person_19 p w (fun r2 T2 => r = r2 ∧ zR r ∧ Inv T2) (d + 1) (mkS (fun f => decide (A 6 f = p)) i) (mkS (fun f => decide (S 0 p f ≠ -1)) i) i T := by
      intro d
      induction d with
      | zero =>
        intro i hi
        rw [h_X9_person_19, a5.2.1]
        refine ⟨by unfold zR; omega, by unfold zR; omega, fun _ => ?_, fun h => absurd (by omega) h⟩
        have : i = (A 1 0).toNat := by omega
        subst this
        refine ⟨hw, fun z => ?_, fun z => ⟨k1 z, hr, A, S, h0⟩, fun z => ⟨k2 z, hr, A, S, h0⟩, fun z => ?_, fun _ _ _ _ => ⟨k4 (by omega), hr, A, S, h0⟩⟩
        · refine sp9_friendsOf a3 a5 hp (fun s s1 s2 => ?_)
          obtain ⟨g1, g2⟩ := k0 z
          exact ⟨ms_ext g1 s1 (fun q q0 q1 => (g2 q q0 q1).trans (s2 q q0 q1).symm), hr, A, S, h0⟩
        · rw [a5.2.2.2.2.2.1, bit_at (ms_up a3.2.2.2.2.2.1 (by decide)) q.1 (by omega)]
          exact ⟨k3 z, hr, A, S, h0⟩
      | succ d ih =>
        intro i hi
        have ihn := ih (i + 1) (by omega)
        rw [mkS, mkS] at ihn
        have fin : ∀ s1 : Int, s1 = (if decide (A 6 i = p) = true then zshl 1 i else 0) → b_X9_person_47 p w (fun r2 T2 => r = r2 ∧ zR r ∧ Inv T2) (h_X9_person_19 p w (fun r2 T2 => r = r2 ∧ zR r ∧ Inv T2) (d + 1)) (mkS (fun f => decide (S 0 p f ≠ -1)) i) i (mkS (fun f => decide (A 6 f = p)) i) s1 T := by
          intro s1 hs1
          subst hs1
          show ∀ w1 : Int, w1 = _ → _
          rintro _ rfl
          refine sp9_knows (by decide) a4 a7 q.1 (by omega) (by omega) (by omega) ?_
          refine dec_ft (fun hk => ?_) (fun hk => ?_)
          · show ∀ w1 : Int, w1 = _ → _
            rintro _ rfl
            rw [if_neg (show ¬ decide (S 0 p i ≠ -1) = true by simpa using hk)] at ihn
            exact ihn
          · show ∀ w1 : Int, w1 = _ → _
            rintro _ rfl
            rw [if_pos (show decide (S 0 p i ≠ -1) = true by simpa using hk)] at ihn
            exact ihn
        have r6 := a3.2.2.2.2.2.2.1 i (by omega) (by omega)
        rw [h_X9_person_19, a5.2.1]
        refine ⟨by unfold zR; omega, by unfold zR; omega, fun h => absurd h (by omega), fun _ => ?_⟩
        refine sp9_personOf a3 a5 (by omega) (by omega) ?_
        refine ⟨by unfold zR; omega, hp, fun e => ?_, fun e => ?_⟩
        · exact fin 0 (by rw [if_neg (by simpa using e)])
        · exact fin _ (by rw [if_pos (by simpa using e)])
    exact key (A 1 0).toNat 0 (by omega)
  unfold wp_X8_person
  refine sp_hasPerson a3 a6 hp ?_
  refine dec_tf (fun q => ?_) (fun q => ref _ zRu (fun _ => rfl) (fun z => absurd z q))
  refine ⟨hw, fun z => ?_, fun z => ?_, fun z => ?_, fun z => ?_, fun _ _ _ _ => ?_⟩
  · obtain ⟨g1, g2⟩ := a6.2.2.2.2.2.2.2.2.2.1 p q.1 q.2
    exact ⟨q.1, by omega, ref _ (ms_R g1 (by decide)) (fun z => absurd q z) (fun _ => ⟨fun _ => ⟨g1, g2⟩, by omega, by omega, by omega, by omega⟩)⟩
  · obtain ⟨g1, g2⟩ := a6.2.2.2.2.2.2.2.2.1 p q.1 q.2
    obtain ⟨m1, m2⟩ := mkS_ok (fun f => decide (A 6 f = p)) (n := (A 1 0).toNat) (by omega)
    have e : T (T 0 1 0).toNat 11 p = mkS (fun f => decide (A 6 f = p)) (A 1 0).toNat := by
      refine ms_ext g1 (ms_up m1 (by omega)) (fun f f0 f1 => ?_)
      rw [g2 f f0 f1, m2 f f0]
      by_cases x1 : f < A 1 0
      · rw [decide_eq_true (show f < ((A 1 0).toNat : Int) by omega), Bool.true_and]
        exact decide_eq_decide.mpr ⟨fun z => z.2, fun z => ⟨x1, z⟩⟩
      · rw [decide_eq_false (show ¬ f < ((A 1 0).toNat : Int) by omega), decide_eq_false (fun z => x1 z.1)]
        rfl
    exact ⟨q.1, by omega, ref _ (ms_R g1 (by decide)) (fun z => absurd q z) (fun _ => ⟨by omega, fun _ => e, by omega, by omega, by omega⟩)⟩
  · refine sp_factsIn a8 q.1 (by omega) ?_
    obtain ⟨m1, m2⟩ := mkS_ok (fun f => decide (S 0 p f ≠ -1)) (n := 8) (by decide)
    obtain ⟨k1, k2⟩ := mkS_ok (fun f => decide (S 0 p f ≠ -1)) (n := (A 1 0).toNat) (by omega)
    have e : mkS (fun f => decide (S 0 p f ≠ -1)) 8 = mkS (fun f => decide (S 0 p f ≠ -1)) (A 1 0).toNat := by
      refine ms_ext m1 (ms_up k1 (by omega)) (fun f f0 f1 => ?_)
      rw [m2 f f0, k2 f f0, decide_eq_true (show f < ((8 : Nat) : Int) from f1), Bool.true_and]
      have := a4.2.2 p f q.1 (by omega) f0 f1
      by_cases x1 : f < A 1 0
      · rw [decide_eq_true (show f < ((A 1 0).toNat : Int) by omega), Bool.true_and]
      · rw [decide_eq_false (show ¬ f < ((A 1 0).toNat : Int) by omega), decide_eq_false (show ¬ S 0 p f ≠ -1 by omega)]
        rfl
    exact ref _ (ms_R m1 (by decide)) (fun z => absurd q z) (fun _ => ⟨by omega, by omega, fun _ => e, by omega, by omega⟩)
  · refine sp_isQuiet a3 a6 q.1 (by omega) ?_
    refine ⟨fun e => ?_, fun e => ?_⟩
    · exact ref _ (by unfold zR; omega) (fun z => absurd q z) (fun _ => ⟨by omega, by omega, by omega, fun _ => by rw [e]; rfl, by omega⟩)
    · exact ref _ (by unfold zR; omega) (fun z => absurd q z) (fun _ => ⟨by omega, by omega, by omega, fun _ => by rw [e]; rfl, by omega⟩)
  · exact ref _ zRo (fun z => absurd q z) (fun _ => ⟨by omega, by omega, by omega, by omega, fun _ => rfl⟩)
/-- only the text has changed -/
theorem InvA.text {T T' : TH} {A : LA} {S : HA} (H : InvA T A S) (f : ∀ o j i, ¬ scr (T 0 1 0).toNat o j → ¬ (o = 1 ∧ (j = 0 ∨ j = 1)) → ¬ (o = 13 ∧ (j = 0 ∨ j = 1)) → T' o j i = T o j i) (hR : TextR T') : InvA T' A S := by
  obtain ⟨a1, a2, a3, a4, a5, a6, a7, a8, a9, a10, a11, a12⟩ := H
  have h23 := lOK_23 a1
  have e01 : T' 0 1 0 = T 0 1 0 := f 0 1 0 (by unfold scr; omega) (by omega) (by omega)
  have e02 : T' 0 2 0 = T 0 2 0 := f 0 2 0 (by unfold scr; omega) (by omega) (by omega)
  refine ⟨by unfold lOK; rw [e01, e02]; exact a1, by rw [e01, e02]; exact a2, a3, a4, a5.off (fun j i hj => f _ _ _ (by unfold scr; omega) (by omega) (by omega)), ?_, a7.eq (fun i _ _ => f _ _ _ (by unfold scr; omega) (by omega) (by omega)), a8.eq (f _ _ _ (by unfold scr; omega) (by omega) (by omega)) (f _ _ _ (by unfold scr; omega) (by omega) (by omega)) (fun i _ _ => f _ _ _ (by unfold scr; omega) (by omega) (by omega)) (fun i _ _ => f _ _ _ (by unfold scr; omega) (by omega) (by omega)), hR, ?_, a11.eq (f _ _ _ (by unfold scr; omega) (by omega) (by omega)) (f _ _ _ (by unfold scr; omega) (by omega) (by omega)) (fun i => f _ _ _ (by unfold scr; omega) (by omega) (by omega)) (fun i => f _ _ _ (by unfold scr; omega) (by omega) (by omega)) (fun i => f _ _ _ (by unfold scr; omega) (by omega) (by omega)), a12.eq (f _ _ _ (by unfold scr; omega) (by omega) (by omega)) (fun i => f _ _ _ (by unfold scr; omega) (by omega) (by omega)) (fun i => f _ _ _ (by unfold scr; omega) (by omega) (by omega)) (fun o j i ho hj => f _ _ _ (by unfold scr; omega) (by omega) (by omega))⟩
  · rw [e01]
    exact a6.eq (fun j i => f _ _ _ (by unfold scr; omega) (by omega) (by omega))
  · unfold FaultR
    rw [f 1 2 0 (by unfold scr; omega) (by omega) (by omega), f 13 6 0 (by unfold scr; omega) (by omega) (by omega)]
    exact a10
theorem st_feed {T : TH} (H : Inv T) {v : Int} (hv : zR v) : wp_X8_feed v T (fun r1 T1 => wp_X9_feed v T1 (fun r2 T2 => r1 = r2 ∧ zR r1 ∧ Inv T2)) := by
  obtain ⟨A, S, h⟩ := H
  have h0 := h
  obtain ⟨a1, a2, a3, a4, a5, a6, a7, a8, a9, a10, a11, a12⟩ := h
  obtain ⟨t1, t2, t3⟩ := a9
  have out : ¬ (0 ≤ v ∧ v ≤ 255) → wp_X9_feed v T (fun r2 T2 => -1000000002 = r2 ∧ zR (-1000000002) ∧ Inv T2) := by
    intro hn
    unfold wp_X9_feed
    refine sp9_in hv (by unfold zR; omega) (by unfold zR; omega) ?_
    exact dec_tf (fun q => absurd q hn) (fun _ => ⟨rfl, zRo, A, S, h0⟩)
  unfold wp_X8_feed
  refine ⟨hv, fun q => out (by omega), fun q => ⟨hv, fun q2 => ?_, fun q2 => out (by omega)⟩⟩
  have hy : 0 ≤ v ∧ v ≤ 255 := by omega
  unfold wp_X4_add
  rw [t1]
  refine ⟨by unfold zR; omega, fun hl => ?_, fun hl => ?_⟩
  · refine ⟨by omega, by omega, ?_⟩
    rintro _ rfl
    intro T2 hT2
    have b1 : up T 1 0 (T 13 0 0) v 1 1 0 = T 13 0 0 := (up_ne (by omega)).trans t1
    rw [b1] at hT2
    have c1 : T2 1 1 0 = T 13 0 0 + 1 := by rw [hT2, up_eq]
    have off : ∀ o j i, ¬ (o = 1 ∧ (j = 0 ∨ j = 1)) → T2 o j i = T o j i := fun o j i ho => by rw [hT2, up_ne (by omega), up_ne (by omega)]
    rw [c1]
    unfold wp_X9_feed
    refine sp9_in hv (by unfold zR; omega) (by unfold zR; omega) ?_
    refine dec_tf (fun _ => ?_) (fun q => absurd hy q)
    rw [off 13 0 0 (by omega)]
    refine ⟨by unfold zR; omega, fun _ => ⟨by omega, by omega, ?_⟩, fun q => absurd q (by omega)⟩
    rintro _ rfl
    intro T4 hT4
    have b2 : up T2 13 1 (T 13 0 0) v 13 0 0 = T 13 0 0 := (up_ne (by omega)).trans (off 13 0 0 (by omega))
    rw [b2] at hT4
    have c2 : T4 13 0 0 = T 13 0 0 + 1 := by rw [hT4, up_eq]
    rw [c2]
    refine ⟨rfl, by unfold zR; omega, A, S, h0.text (fun o j i r1 r2 r3 => ?_) ⟨?_, by rw [c2]; omega, fun i i0 i1 => ?_⟩⟩
    · rw [hT4, up_ne (by omega), up_ne (by omega)]
      exact off _ _ _ r2
    · rw [c2, hT4, up_ne (by omega), up_ne (by omega)]
      exact c1
    · rw [c2] at i1
      have d1 : T4 1 0 i = up T 1 0 (T 13 0 0) v 1 0 i := by rw [hT4, up_ne (by omega), up_ne (by omega), hT2, up_ne (by omega)]
      have d2 : T4 13 1 i = up T2 13 1 (T 13 0 0) v 13 1 i := by rw [hT4, up_ne (by omega)]
      rw [d1, d2]
      by_cases e : i = T 13 0 0
      · subst e
        rw [up_eq, up_eq]
        exact ⟨rfl, hy⟩
      · rw [up_ne (by omega), up_ne (by omega), off 13 1 i (by omega)]
        exact t3 i i0 (by omega)
  · unfold wp_X9_feed
    refine sp9_in hv (by unfold zR; omega) (by unfold zR; omega) ?_
    refine dec_tf (fun _ => ?_) (fun q => absurd hy q)
    exact ⟨by unfold zR; omega, fun q => absurd (by omega) q, fun _ => ⟨rfl, zRf, A, S, h0⟩⟩
/-- the reference copies 58 places from one row to another -/
theorem sp9_copy {T : TH} {j1 j2 n1 n2 : Nat} {v1 v3 : Int} {Q : TH → Prop} (hj : j1 ≠ j2) (h1 : 0 ≤ v1) (h2 : v1 + 58 ≤ n1) (h3 : 0 ≤ v3) (h4 : v3 + 58 ≤ n2) (hq : ∀ T', (∀ k : Int, 0 ≤ k → k < 58 → T' 13 j2 (v3 + k) = T 13 j1 (v1 + k)) → (∀ o j i, ¬ (o = 13 ∧ j = j2 ∧ v3 ≤ i ∧ i < v3 + 58) → T' o j i = T o j i) → Q T') : wp_X9_copy 13 j1 n1 v1 13 j2 n2 v3 T Q := by
  unfold wp_X9_copy
  refine ⟨58 + 1, ?_⟩
  have key : ∀ (d i : Nat) (T1 : TH), i + d = 58 → (∀ k : Int, 0 ≤ k → k < (i : Int) → T1 13 j2 (v3 + k) = T 13 j1 (v1 + k)) → (∀ o j x, ¬ (o = 13 ∧ j = j2 ∧ v3 ≤ x ∧ x < v3 + i) → T1 o j x = T o j x) → h_X9_copy_3 13 j1 n1 v1 13 j2 n2 v3 Q (d + 1) i T1 := by
    intro d
    induction d with
    | zero =>
      intro i T1 hi k1 k2
      have : i = 58 := by omega
      subst this
      rw [h_X9_copy_3]
      exact ⟨by unfold zR; omega, fun _ => hq T1 k1 k2, fun h => absurd (by omega) h⟩
    | succ d ih =>
      intro i T1 hi k1 k2
      rw [h_X9_copy_3]
      refine ⟨by unfold zR; omega, fun h => absurd h (by omega), fun _ => ⟨by omega, by omega, by omega, by omega, ?_⟩⟩
      rintro _ rfl
      refine ih (i + 1) _ (by omega) (fun k k0 kk => ?_) (fun o j x hn => ?_)
      · by_cases e : k = i
        · subst e
          rw [up_eq]
          exact k2 _ _ _ (by omega)
        · rw [up_ne (by omega)]
          exact k1 k k0 (by omega)
      · rw [up_ne (by omega)]
        exact k2 o j x (by omega)
  exact key 58 0 T (by omega) (fun k k0 k1 => by omega) (fun _ _ _ _ => rfl)
theorem sp_copyFrom {T : TH} {S : HA} {o o1 : Nat} (ho : o ≠ o1) (h : HeadC T o1 S) {Q : TH → Prop} (hq : ∀ T', HeadC T' o S → (∀ o' j i, ¬ (o' = o ∧ (j = 0 ∨ j = 1 ∨ j = 2 ∨ j = 4)) → T' o' j i = T o' j i) → Q T') : wp_X2_copyFrom o o1 T Q := by
  unfold wp_X2_copyFrom
  rintro _ rfl T2 hT2
  refine ⟨by decide, ?_⟩
  intro T3 hT3
  refine ⟨by decide, ?_⟩
  intro T4 hT4
  have e2 : ∀ o' j i, ¬ (o' = o ∧ (j = 0 ∨ j = 1)) → T2 o' j i = T o' j i := fun o' j i hn => by rw [hT2, up_ne (by omega), up_ne (by omega)]
  have e3 : ∀ o' j i, ¬ (o' = o ∧ j = 2) → T3 o' j i = T2 o' j i := fun o' j i hn => by
    rw [hT3]
    exact if_neg (fun z => hn ⟨z.1, z.2.1⟩)
  have e4 : ∀ o' j i, ¬ (o' = o ∧ j = 4) → T4 o' j i = T3 o' j i := fun o' j i hn => by
    rw [hT4]
    exact if_neg (fun z => hn ⟨z.1, z.2.1⟩)
  refine hq T4 (h.eq ?_ ?_ (fun i i0 i1 => ?_) (fun i i0 i1 => ?_)) (fun o' j i hn => ?_)
  · rw [e4 _ _ _ (by omega), e3 _ _ _ (by omega), hT2, up_ne (by omega), up_eq]
  · rw [e4 _ _ _ (by omega), e3 _ _ _ (by omega), hT2, up_eq, up_ne (by omega)]
  · rw [e4 _ _ _ (by omega), hT3]
    have : cpy T2 o1 2 0 o 2 0 8 o 2 i = T2 o1 2 (0 + (i - 0)) := if_pos ⟨rfl, rfl, by omega, by omega⟩
    rw [this, show 0 + (i - 0) = i by omega, e2 _ _ _ (by omega)]
  · rw [hT4]
    have : cpy T3 o1 4 0 o 4 0 56 o 4 i = T3 o1 4 (0 + (i - 0)) := if_pos ⟨rfl, rfl, by omega, by omega⟩
    rw [this, show 0 + (i - 0) = i by omega, e3 _ _ _ (by omega), e2 _ _ _ (by omega)]
  · rw [e4 _ _ _ (by omega), e3 _ _ _ (by omega), e2 _ _ _ (by omega)]
