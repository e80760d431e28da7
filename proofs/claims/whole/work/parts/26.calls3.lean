/-! sets that are gathered bit by bit -/
theorem zor_0 {n : Nat} {a : Int} (h : ms n a) (hn : n ≤ 31) : zor a 0 = a := by
  obtain ⟨h1, h2⟩ := zor_b (ms_up h hn) (ms_0 31)
  refine ms_ext h1 (ms_up h hn) (fun k _ _ => ?_)
  rw [h2, bt_0, Bool.or_false]
def mkS (g : Int → Bool) : Nat → Int
  | 0 => 0
  | n + 1 => zor (mkS g n) (if g n = true then zshl 1 n else 0)
theorem mkS_ok (g : Int → Bool) : ∀ {n : Nat}, n ≤ 31 → ms n (mkS g n) ∧ ∀ k, 0 ≤ k → bt (mkS g n) k = (decide (k < n) && g k)
  | 0, _ => ⟨ms_0 0, fun k k0 => by rw [mkS, bt_0, decide_eq_false (by omega)]; rfl⟩
  | n + 1, hn => by
    obtain ⟨h1, h2⟩ := mkS_ok g (n := n) (by omega)
    rw [mkS]
    by_cases hg : g n = true
    · rw [if_pos hg]
      obtain ⟨t1, t2⟩ := put_b (k := n) (ms_up h1 (Nat.le_succ n)) (by omega) (by omega) hn
      refine ⟨t1, fun k k0 => ?_⟩
      rw [t2 k k0, h2 k k0]
      by_cases e : k = n
      · subst e
        rw [decide_eq_true (show (n : Int) = n from rfl), decide_eq_true (show (n : Int) < ((n + 1 : Nat) : Int) by omega), hg, Bool.or_true]
        rfl
      · by_cases e2 : k < n
        · rw [decide_eq_false e, decide_eq_true e2, decide_eq_true (show k < ((n + 1 : Nat) : Int) by omega), Bool.or_false]
        · rw [decide_eq_false e, decide_eq_false e2, decide_eq_false (show ¬ k < ((n + 1 : Nat) : Int) by omega)]
          rfl
    · rw [if_neg hg, zor_0 h1 (by omega)]
      refine ⟨ms_up h1 (Nat.le_succ n), fun k k0 => ?_⟩
      rw [h2 k k0]
      by_cases e : k = n
      · subst e
        rw [show g n = false by cases h : g n with | false => rfl | true => exact absurd h hg, Bool.and_false, Bool.and_false]
      · by_cases e2 : k < n
        · rw [decide_eq_true e2, decide_eq_true (show k < ((n + 1 : Nat) : Int) by omega)]
        · rw [decide_eq_false e2, decide_eq_false (show ¬ k < ((n + 1 : Nat) : Int) by omega)]
theorem zshl_00 : ∀ k : Nat, k < 31 → zshl 0 (k : Int) = 0 := by decide +kernel
theorem zshl_zi {b : Bool} {k : Int} (h0 : 0 ≤ k) (h : k < 31) : zshl (zi b) k = if b = true then zshl 1 k else 0 := by
  cases b with
  | true => rfl
  | false =>
    have := zshl_00 k.toNat (by omega)
    rw [Int.toNat_of_nonneg h0] at this
    exact this
theorem sp9_knowersOf {A : LA} {T : TH} {S : HA} {j : Nat} {M : Int} (hA : LAok A) (hL : LandM T A) (hM : M ≤ 1000000) (hS : HAok A S M) (hH : HeadM T j 0 S) {f : Int} {Q : Int → TH → Prop} (f0 : 0 ≤ f) (f1 : f < 8) (hq : Q (mkS (fun p => decide (S 0 p f ≠ -1)) (A 0 0).toNat) T) : wp_X9_knowersOf 13 j 58 f T Q := by
  unfold wp_X9_knowersOf
  have a0 := hA.1
  refine ⟨(A 0 0).toNat + 1, ?_⟩
  have key : ∀ (d i : Nat), i + d = (A 0 0).toNat → h_X9_knowersOf_5 13 j 58 f Q (d + 1) (mkS (fun p => decide (S 0 p f ≠ -1)) i) i T := by
    intro d
    induction d with
    | zero =>
      intro i hi
      rw [h_X9_knowersOf_5, hL.1]
      refine ⟨by unfold zR; omega, by unfold zR; omega, fun _ => ?_, fun h => absurd (by omega) h⟩
      have : i = (A 0 0).toNat := by omega
      subst this
      exact hq
    | succ d ih =>
      intro i hi
      have ihn := ih (i + 1) (by omega)
      rw [mkS] at ihn
      rw [h_X9_knowersOf_5, hL.1]
      refine ⟨by unfold zR; omega, by unfold zR; omega, fun h => absurd h (by omega), fun _ => ?_⟩
      refine sp9_knows hM hS hH (by omega) (by omega) f0 f1 ?_
      refine dec_ft (fun hk => ?_) (fun hk => ?_)
      · show ∀ w1 : Int, w1 = _ → _
        rintro _ rfl
        rw [if_neg (by simpa using hk)] at ihn
        exact ihn
      · show ∀ w1 : Int, w1 = _ → _
        rintro _ rfl
        rw [if_pos (by simpa using hk)] at ihn
        exact ihn
  exact key (A 0 0).toNat 0 (by omega)
theorem knowers_eq {A : LA} {T : TH} {S : HA} {o : Nat} {M : Int} (hA : LAok A) (hS : HAok A S M) (hH : HeadC T o S) {f : Int} (f0 : 0 ≤ f) (f1 : f < 8) : T o 2 f = mkS (fun p => decide (S 0 p f ≠ -1)) (A 0 0).toNat := by
  have a0 := hA.1
  obtain ⟨m1, m2⟩ := mkS_ok (fun p => decide (S 0 p f ≠ -1)) (n := (A 0 0).toNat) (by omega)
  obtain ⟨c1, c2⟩ := hH.2.2.1 f f0 f1
  refine ms_ext c1 (ms_up m1 (by omega)) (fun k k0 k1 => ?_)
  rw [c2 k k0 k1, m2 k k0]
  have := hS.2.2 k f k0 k1 f0 f1
  by_cases e : k < A 0 0
  · rw [decide_eq_true (show k < ((A 0 0).toNat : Int) by omega)]
    rfl
  · have h9 : S 0 k f = -1 := by omega
    rw [decide_eq_false (show ¬ k < ((A 0 0).toNat : Int) by omega), decide_eq_false (show ¬ S 0 k f ≠ -1 by omega)]
    rfl
theorem sp_factsIn {T : TH} {S : HA} {o : Nat} (hH : HeadC T o S) {p : Int} {Q : Int → TH → Prop} (p0 : 0 ≤ p) (p1 : p < 7) (hq : Q (mkS (fun f => decide (S 0 p f ≠ -1)) 8) T) : wp_X2_factsIn o p T Q := by
  unfold wp_X2_factsIn
  refine ⟨8 + 1, ?_⟩
  have key : ∀ (d i : Nat), i + d = 8 → h_X2_factsIn_4 o p Q (d + 1) (mkS (fun f => decide (S 0 p f ≠ -1)) i) i T := by
    intro d
    induction d with
    | zero =>
      intro i hi
      rw [h_X2_factsIn_4]
      refine ⟨by unfold zR; omega, fun _ => ?_, fun h => absurd (by omega) h⟩
      have : i = 8 := by omega
      subst this
      exact hq
    | succ d ih =>
      intro i hi
      have ihn := ih (i + 1) (by omega)
      rw [mkS] at ihn
      rw [h_X2_factsIn_4]
      refine ⟨by unfold zR; omega, fun h => absurd h (by omega), fun _ => ⟨by omega, by omega, ?_⟩⟩
      rintro _ rfl
      obtain ⟨c1, c2⟩ := hH.2.2.1 i (by omega) (by omega)
      rw [bit_at (ms_up c1 (by decide)) p0 (by omega), zshl_zi (by omega) (by omega), c2 p p0 p1]
      exact ihn
  exact key 8 0 (by omega)
theorem sp_allHeads {A : LA} {T : TH} {S : HA} {o l : Nat} {M : Int} (hA : LAok A) (hC : LandC T l A) (hS : HAok A S M) (hH : HeadC T o S) {Q : Int → TH → Prop} (hq : Q (sZ (hdS A S) (A 1 0).toNat) T) : wp_X2_allHeads o l T Q := by
  unfold wp_X2_allHeads
  have a1 := hA.2.1
  refine ⟨(A 1 0).toNat + 1, ?_⟩
  have key : ∀ (d i : Nat), i + d = (A 1 0).toNat → h_X2_allHeads_4 o l Q (d + 1) (sZ (hdS A S) i) i T := by
    intro d
    induction d with
    | zero =>
      intro i hi
      rw [h_X2_allHeads_4, hC.2.1]
      refine ⟨by unfold zR; omega, by unfold zR; omega, fun _ => ?_, fun h => absurd (by omega) h⟩
      have : i = (A 1 0).toNat := by omega
      subst this
      exact hq
    | succ d ih =>
      intro i hi
      have ihn := ih (i + 1) (by omega)
      rw [sZ] at ihn
      rw [h_X2_allHeads_4, hC.2.1]
      refine ⟨by unfold zR; omega, by unfold zR; omega, fun h => absurd h (by omega), fun _ => ?_⟩
      refine sp_headsOf hA hC hS hH (by omega) (by omega) ?_
      rintro _ rfl
      exact ihn
  exact key (A 1 0).toNat 0 (by omega)
theorem st_told {T : TH} (H : Inv T) {w : Int} (hw : zR w) : wp_X8_told w T (fun r1 T1 => wp_X9_told w T1 (fun r2 T2 => r1 = r2 ∧ zR r1 ∧ Inv T2)) := by
  obtain ⟨A, S, h⟩ := H
  have h0 := h
  obtain ⟨a1, a2, a3, a4, a5, a6, a7, a8, a9, a10, a11, a12⟩ := h
  have n8 := a3.2.1
  have ref : ∀ r : Int, zR r → (w = 0 → r = A 0 0) → (w = 1 → r = A 1 0) → (w = 2 → r = A 2 0) → (w = 3 → r = A 3 0) → (w = 4 → r = A 4 0) → (w = 5 → r = T 13 0 0) → (w = 6 → r = S 1 0 0) → (w = 7 → r = A 5 0) → (w = 8 → r = sZ (hdS A S) (A 1 0).toNat) → (w = 9 → r = T 13 31 0) → ((w < 0 ∨ 9 < w) → r = -1000000002) → wp_X9_told w T (fun r2 T2 => r = r2 ∧ zR r ∧ Inv T2) := by
    intro r hr e0 e1 e2 e3 e4 e5 e6 e7 e8 e9 e10
    unfold wp_X9_told
    refine ⟨(A 1 0).toNat + 1, ?_⟩
    have key : ∀ (d i : Nat), i + d = (A 1 0).toNat → h_X9_told_4 w (fun r2 T2 => r = r2 ∧ zR r ∧ Inv T2) (d + 1) (sZ (hdS A S) i) i T := by
      intro d
      induction d with
      | zero =>
        intro i hi
        rw [h_X9_told_4, a5.2.1]
        refine ⟨by unfold zR; omega, by unfold zR; omega, fun _ => ?_, fun h => absurd (by omega) h⟩
        have : i = (A 1 0).toNat := by omega
        subst this
        rw [a5.1, a5.2.2.1, a5.2.2.2.1, a5.2.2.2.2.1, a5.2.2.2.2.2.1, a7.h0]
        exact ⟨hw, fun q => ⟨e0 q, hr, A, S, h0⟩, fun q => ⟨e1 q, hr, A, S, h0⟩, fun q => ⟨e2 q, hr, A, S, h0⟩, fun q => ⟨e3 q, hr, A, S, h0⟩, fun q => ⟨e4 q, hr, A, S, h0⟩, fun q => ⟨e5 q, hr, A, S, h0⟩, fun q => ⟨e6 q, hr, A, S, h0⟩, fun q => ⟨e7 q, hr, A, S, h0⟩, fun q => ⟨e8 q, hr, A, S, h0⟩, fun q => ⟨e9 q, hr, A, S, h0⟩, fun _ _ _ _ _ _ _ _ _ _ => ⟨e10 (by omega), hr, A, S, h0⟩⟩
      | succ d ih =>
        intro i hi
        have ihn := ih (i + 1) (by omega)
        rw [sZ] at ihn
        rw [h_X9_told_4, a5.2.1]
        refine ⟨by unfold zR; omega, by unfold zR; omega, fun h => absurd h (by omega), fun _ => ?_⟩
        refine sp9_headsOf a3 a5 (by decide) a4 a7 (by omega) (by omega) ?_
        rintro _ rfl
        exact ihn
    exact key (A 1 0).toNat 0 (by omega)
  have x0 := a3.1
  have x2 := a3.2.2.1
  have x3 := a3.2.2.2.1
  have x4 := a3.2.2.2.2.1
  have x5 := ms_R a3.2.2.2.2.2.1 (by decide)
  have x6 := a4.1
  have x8 : 0 ≤ sZ (hdS A S) (A 1 0).toNat ∧ sZ (hdS A S) (A 1 0).toNat ≤ 56 := by
    have b := sZ_bound (g := hdS A S) (c := 7) (n := (A 1 0).toNat) (fun i _ _ => by have := hdS_R a3 S i; omega)
    have c := sZ_nonneg (g := hdS A S) (n := (A 1 0).toNat) (fun i _ _ => (hdS_R a3 S i).1)
    omega
  obtain ⟨t1, t2, t3⟩ := a9
  obtain ⟨s1, s2, s3⟩ := a11
  unfold wp_X8_told
  rw [a6.1, a6.2.1, a6.2.2.1, a6.2.2.2.1, a6.2.2.2.2.1, a6.2.2.2.2.2.1, a8.1, t1, s1]
  refine ⟨hw, fun q => ?_, fun q => ?_, fun q => ?_, fun q => ?_, fun q => ?_, fun q => ?_, fun q => ?_, fun q => ?_, fun q => ?_, fun q => ?_, fun _ _ _ _ _ _ _ _ _ _ => ?_⟩
  · exact ref _ (by unfold zR; omega) (by omega) (by omega) (by omega) (by omega) (by omega) (by omega) (by omega) (by omega) (by omega) (by omega) (by omega)
  · exact ref _ (by unfold zR; omega) (by omega) (by omega) (by omega) (by omega) (by omega) (by omega) (by omega) (by omega) (by omega) (by omega) (by omega)
  · exact ref _ (by unfold zR; omega) (by omega) (by omega) (by omega) (by omega) (by omega) (by omega) (by omega) (by omega) (by omega) (by omega) (by omega)
  · exact ref _ (by unfold zR; omega) (by omega) (by omega) (by omega) (by omega) (by omega) (by omega) (by omega) (by omega) (by omega) (by omega) (by omega)
  · exact ref _ (by unfold zR; omega) (by omega) (by omega) (by omega) (by omega) (by omega) (by omega) (by omega) (by omega) (by omega) (by omega) (by omega)
  · exact ref _ (by unfold zR; omega) (by omega) (by omega) (by omega) (by omega) (by omega) (by omega) (by omega) (by omega) (by omega) (by omega) (by omega)
  · exact ref _ (by unfold zR; omega) (by omega) (by omega) (by omega) (by omega) (by omega) (by omega) (by omega) (by omega) (by omega) (by omega) (by omega)
  · exact ref _ x5 (by omega) (by omega) (by omega) (by omega) (by omega) (by omega) (by omega) (by omega) (by omega) (by omega) (by omega)
  · refine sp_allHeads a3 a6 a4 a8 ?_
    exact ref _ (by unfold zR; omega) (by omega) (by omega) (by omega) (by omega) (by omega) (by omega) (by omega) (by omega) (by omega) (by omega) (by omega)
  · exact ref _ (by unfold zR; omega) (by omega) (by omega) (by omega) (by omega) (by omega) (by omega) (by omega) (by omega) (by omega) (by omega) (by omega)
  · exact ref _ zRo (by omega) (by omega) (by omega) (by omega) (by omega) (by omega) (by omega) (by omega) (by omega) (by omega) (by omega)
theorem st_fact {T : TH} (H : Inv T) {f w : Int} (hf : zR f) (hw : zR w) : wp_X8_fact f w T (fun r1 T1 => wp_X9_fact f w T1 (fun r2 T2 => r1 = r2 ∧ zR r1 ∧ Inv T2)) := by
  obtain ⟨A, S, h⟩ := H
  have h0 := h
  obtain ⟨a1, a2, a3, a4, a5, a6, a7, a8, a9, a10, a11, a12⟩ := h
  have n7 := a3.1
  have n8 := a3.2.1
  have ref : ∀ r : Int, zR r → (¬ (0 ≤ f ∧ f < A 1 0) → r = -1000000001) → (0 ≤ f ∧ f < A 1 0 → (w = 0 → r = A 6 f) ∧ (w = 1 → r = A 7 f) ∧ (w = 2 → r = A 8 f) ∧ (w = 3 → r = mkS (fun p => decide (S 0 p f ≠ -1)) (A 0 0).toNat) ∧ (w = 4 → r = hdS A S f) ∧ ((w < 0 ∨ 4 < w) → r = -1000000002)) → wp_X9_fact f w T (fun r2 T2 => r = r2 ∧ zR r ∧ Inv T2) := by
    intro r hr e0 e1
    unfold wp_X9_fact
    refine sp9_isFact a3 a5 hf ?_
    refine dec_tf (fun q => ?_) (fun q => ⟨e0 q, hr, A, S, h0⟩)
    obtain ⟨k0, k1, k2, k3, k4, k5⟩ := e1 q
    obtain ⟨m0, m1, m2⟩ := a5.2.2.2.2.2.2.1 f q.1 q.2
    refine ⟨hw, fun z => ?_, fun z => ?_, fun z => ?_, fun z => ?_, fun z => ?_, fun _ _ _ _ _ => ⟨k5 (by omega), hr, A, S, h0⟩⟩
    · subst z
      rw [Int.add_zero, m0]
      exact ⟨by omega, by omega, k0 rfl, hr, A, S, h0⟩
    · subst z
      rw [m1]
      exact ⟨by omega, by omega, k1 rfl, hr, A, S, h0⟩
    · subst z
      rw [m2]
      exact ⟨by omega, by omega, k2 rfl, hr, A, S, h0⟩
    · exact sp9_knowersOf a3 a5 (by decide) a4 a7 q.1 (by omega) ⟨k3 z, hr, A, S, h0⟩
    · exact sp9_headsOf a3 a5 (by decide) a4 a7 q.1 q.2 ⟨k4 z, hr, A, S, h0⟩
  unfold wp_X8_fact
  refine sp_hasFact a3 a6 hf ?_
  refine dec_tf (fun q => ?_) (fun q => ref _ zRu (fun _ => rfl) (fun z => absurd z q))
  obtain ⟨m0, m1⟩ := a6.2.2.2.2.2.2.2.1 f q.1 q.2
  obtain ⟨g0, g1, g2⟩ := a3.2.2.2.2.2.2.1 f q.1 q.2
  refine ⟨hw, fun z => ?_, fun z => ?_, fun z => ?_, fun z => ?_, fun z => ?_, fun _ _ _ _ _ => ?_⟩
  · rw [m0]
    exact ⟨q.1, by omega, ref _ (by unfold zR; omega) (fun z => absurd q z) (fun _ => ⟨fun _ => rfl, by omega, by omega, by omega, by omega, by omega⟩)⟩
  · rw [m1]
    exact ⟨q.1, by omega, ref _ (by unfold zR; omega) (fun z => absurd q z) (fun _ => ⟨by omega, fun _ => rfl, by omega, by omega, by omega, by omega⟩)⟩
  · refine sp_isLie a3 a6 q.1 q.2 ?_
    refine dec_ft (fun hn => ?_) (fun hy => ?_)
    · exact ref _ (by unfold zR; omega) (fun z => absurd q z) (fun _ => ⟨by omega, by omega, by omega, by omega, by omega, by omega⟩)
    · exact ref _ (by unfold zR; omega) (fun z => absurd q z) (fun _ => ⟨by omega, by omega, by omega, by omega, by omega, by omega⟩)
  · have e := knowers_eq a3 a4 a8 q.1 (by omega : f < 8)
    have r := ms_R (a8.2.2.1 f q.1 (by omega)).1 (by decide)
    exact ⟨q.1, by omega, ref _ r (fun z => absurd q z) (fun _ => ⟨by omega, by omega, by omega, fun _ => e, by omega, by omega⟩)⟩
  · refine sp_headsOf a3 a6 a4 a8 q.1 q.2 ?_
    have := hdS_R a3 S f
    exact ref _ (by unfold zR; omega) (fun z => absurd q z) (fun _ => ⟨by omega, by omega, by omega, by omega, fun _ => rfl, by omega⟩)
  · exact ref _ zRo (fun z => absurd q z) (fun _ => ⟨by omega, by omega, by omega, by omega, by omega, fun _ => rfl⟩)
