/-! apart: the call -/
theorem kap_lt {x y : Int} (hx : ms 12 x) (hy : ms 12 y) : (kap x < kap y) ↔ (pcn x 12 - pcn y 12 < 0 ∨ (pcn x 12 - pcn y 12 = 0 ∧ x < y)) := by
  have x1 := hx.1
  have x2 : x < 4096 := hx.2
  have y1 := hy.1
  have y2 : y < 4096 := hy.2
  unfold kap
  omega
theorem sp_fewestToBreak {A : LA} {T : TH} {src p : Int} (hA : LAok A) (hC : LandC T (T 0 1 0).toNat A) (hs : ms (A 0 0).toNat src) (p0 : 0 ≤ p) (p1 : p < A 0 0) {Q : Int → TH → Prop} (hq : ∀ c, ms (A 2 0).toNat c → (c = (2 : Int) ^ (A 2 0).toNat - 1 ∨ ∃ X, ms (A 0 0).toNat X ∧ sdS A src p X = true ∧ c = woS A X) → (∀ X, ms (A 0 0).toNat X → sdS A src p X = true → kap c ≤ kap (woS A X)) → Q c T) : wp_X8_fewestToBreak src p T Q := by
  have n0 := hA.1
  have n2 := hA.2.2.1
  have eN : ((2 ^ (A 0 0).toNat : Nat) : Int) = (2 : Int) ^ (A 0 0).toNat := by simp
  have p128 : (2 : Nat) ^ (A 0 0).toNat ≤ 128 := Nat.pow_le_pow_right (n := 2) (by decide) (show (A 0 0).toNat ≤ 7 by omega)
  unfold wp_X8_fewestToBreak
  rw [hC.2.2.1, zshl_b (by omega) (by omega)]
  rintro _ rfl
  obtain ⟨f1, f2⟩ := full_b (A 2 0).toNat
  have key : ∀ (d i : Nat) (c : Int), i + d = 2 ^ (A 0 0).toNat → ms (A 2 0).toNat c → (c = (2 : Int) ^ (A 2 0).toNat - 1 ∨ ∃ X, ms (A 0 0).toNat X ∧ sdS A src p X = true ∧ c = woS A X) → (∀ X, 0 ≤ X → X < (i : Int) → sdS A src p X = true → kap c ≤ kap (woS A X)) → h_X8_fewestToBreak_15 src p Q (d + 1) c i T := by
    intro d
    induction d with
    | zero =>
      intro i c hi c0 c1 c2
      rw [h_X8_fewestToBreak_15, hC.1, zshl_b (by omega) (by omega)]
      refine ⟨by unfold zR; omega, by unfold zR; omega, fun _ => hq c c0 c1 (fun X hX hsd => c2 X hX.1 (by have := hX.2; omega) hsd), fun z => absurd (by omega) z⟩
    | succ d ih =>
      intro i c hi c0 c1 c2
      have im : ms (A 0 0).toNat (i : Int) := ⟨by omega, by omega⟩
      have i31 := ms_up im (show (A 0 0).toNat ≤ 31 by omega)
      have stay : (sdS A src p i = true → kap c ≤ kap (woS A i)) → b_X8_fewestToBreak_89 src p Q (h_X8_fewestToBreak_15 src p Q (d + 1)) c i T := fun h => by
        refine ih (i + 1) c (by omega) c0 c1 (fun X x0 x1 hx => ?_)
        by_cases e : X = i
        · subst e
          exact h hx
        · exact c2 X x0 (by omega) hx
      rw [h_X8_fewestToBreak_15, hC.1, zshl_b (by omega) (by omega)]
      refine ⟨by unfold zR; omega, by unfold zR; omega, fun z => absurd z (by omega), fun _ => ⟨zR_to _, fun z => stay (fun h => ?_), fun z => ?_⟩⟩
      · unfold sdS at h
        rw [decide_eq_false z] at h
        exact absurd h (by simp)
      · refine bit_en i31 p0 (by omega) (fun z2 => ?_) (fun z2 => stay (fun h => ?_))
        rotate_left
        · unfold sdS at h
          rw [z2, Bool.not_true, Bool.and_false] at h
          exact absurd h (by decide)
        have hsd : sdS A src p i = true := by
          unfold sdS
          rw [decide_eq_true z, z2]
          rfl
        obtain ⟨w1, w2⟩ := woS_ok hA (i : Int)
        have w12 : ms 12 (woS A i) := ms_up w1 (by omega)
        have c12 : ms 12 c := ms_up c0 (by omega)
        have l1 := pcn_le (woS A i) 12
        have l2 := pcn_le c 12
        have kl := kap_lt w12 c12
        have go : kap (woS A i) < kap c → b_X8_fewestToBreak_86 src p Q (h_X8_fewestToBreak_15 src p Q (d + 1)) i (woS A i) T := fun h => by
          refine ih (i + 1) (woS A i) (by omega) w1 (Or.inr ⟨i, im, hsd, rfl⟩) (fun X x0 x1 hx => ?_)
          by_cases e : X = i
          · subst e
            exact Int.le_refl _
          · have := c2 X x0 (by omega) hx
            omega
        refine sp_waysOut hA hC i31 ?_
        refine sp_bitCount w12 ?_
        refine sp_bitCount c12 ?_
        rintro _ rfl
        refine ⟨by unfold zR; omega, fun q => go (kl.mpr (Or.inl q)), fun q => ⟨by unfold zR; omega, fun q2 => stay (fun _ => ?_), fun q2 => ⟨ms_R w12 (by decide), ms_R c12 (by decide), fun q3 => stay (fun _ => ?_), fun q3 => go (kl.mpr (Or.inr ⟨q2, by omega⟩))⟩⟩⟩
        · have : ¬ kap (woS A i) < kap c := fun h => by
            rcases kl.mp h with h | h <;> omega
          omega
        · have : ¬ kap (woS A i) < kap c := fun h => by
            rcases kl.mp h with h | h <;> omega
          omega
  exact ⟨_, key (2 ^ (A 0 0).toNat) 0 _ (by omega) f1 (Or.inl rfl) (fun X x0 x1 => by omega)⟩
theorem st_apart {T : TH} (H : Inv T) {f p v : Int} (hf : zR f) (hp : zR p) (hv : zR v) : wp_X8_apart f p v T (fun r1 T1 => wp_X9_apart f p v T1 (fun r2 T2 => r1 = r2 ∧ zR r1 ∧ Inv T2)) := by
  obtain ⟨A, S, h⟩ := H
  have h0 := h
  obtain ⟨a1, a2, a3, a4, a5, a6, a7, a8, a9, a10, a11, a12⟩ := h
  have n0 := a3.1
  have n1 := a3.2.1
  have n2 := a3.2.2.1
  have unk : ¬ ((0 ≤ f ∧ f < A 1 0) ∧ (0 ≤ p ∧ p < A 0 0)) → wp_X9_apart f p v T (fun r2 T2 => -1000000001 = r2 ∧ zR (-1000000001) ∧ Inv T2) := by
    intro hno
    unfold wp_X9_apart
    refine sp9_isFact a3 a5 hf ?_
    refine dec_ft (fun _ => ⟨rfl, zRu, A, S, h0⟩) (fun q1 => ?_)
    refine sp9_isOne a3 a5 hp ?_
    exact dec_tf (fun q2 => absurd ⟨q1, q2⟩ hno) (fun _ => ⟨rfl, zRu, A, S, h0⟩)
  unfold wp_X8_apart
  refine sp_hasFact a3 a6 hf ?_
  refine dec_ft (fun q => unk (fun z => q z.1)) (fun q1 => ?_)
  refine sp_hasPerson a3 a6 hp ?_
  refine dec_tf (fun q2 => ?_) (fun q => unk (fun z => q z.2))
  have out : ¬ (0 ≤ v ∧ v ≤ 1) → wp_X9_apart f p v T (fun r2 T2 => -1000000002 = r2 ∧ zR (-1000000002) ∧ Inv T2) := by
    intro hno
    unfold wp_X9_apart
    refine sp9_isFact a3 a5 hf ?_
    refine dec_ft (fun q => absurd q1 q) (fun _ => ?_)
    refine sp9_isOne a3 a5 hp ?_
    refine dec_tf (fun _ => ?_) (fun q => absurd q2 q)
    refine sp9_in hv (by unfold zR; omega) (by unfold zR; omega) ?_
    exact dec_tf (fun q => absurd q hno) (fun _ => ⟨rfl, zRo, A, S, h0⟩)
  refine ⟨hv, fun q => out (by omega), fun q3 => ⟨hv, fun q4 => ?_, fun q => out (by omega)⟩⟩
  have qv : 0 ≤ v ∧ v ≤ 1 := by omega
  refine sp_knows a8 q2.1 (by omega) q1.1 (by omega) ?_
  refine dec_ft (fun hk => ⟨q1.1, by omega, ?_⟩) (fun hk => ?_)
  rotate_left
  · unfold wp_X9_apart
    refine sp9_isFact a3 a5 hf ?_
    refine dec_ft (fun q => absurd q1 q) (fun _ => ?_)
    refine sp9_isOne a3 a5 hp ?_
    refine dec_tf (fun _ => ?_) (fun q => absurd q2 q)
    refine sp9_in hv (by unfold zR; omega) (by unfold zR; omega) ?_
    refine dec_tf (fun _ => ?_) (fun q => absurd qv q)
    refine sp9_knows (by decide) a4 a7 q2.1 (by omega) q1.1 (by omega) ?_
    exact dec_ft (fun q => absurd hk q) (fun _ => ⟨rfl, zRn, A, S, h0⟩)
  rw [knowers_eq a3 a4 a8 q1.1 (by omega)]
  obtain ⟨s1, s2⟩ := mkS_ok (fun p => decide (S 0 p f ≠ -1)) (n := (A 0 0).toNat) (by omega)
  have sp : bt (mkS (fun p => decide (S 0 p f ≠ -1)) (A 0 0).toNat) p = false := by
    rw [s2 p q2.1, decide_eq_false hk, Bool.and_false]
  have eN : ((2 ^ (A 2 0).toNat : Nat) : Int) = (2 : Int) ^ (A 2 0).toNat := by simp
  have p4096 : (2 : Nat) ^ (A 2 0).toNat ≤ 4096 := Nat.pow_le_pow_right (n := 2) (by decide) (show (A 2 0).toNat ≤ 12 by omega)
  obtain ⟨f1, f2⟩ := full_b (A 2 0).toNat
  refine sp_fewestToBreak a3 a6 s1 q2.1 q2.2 (fun c c0 c1 c2 => ?_)
  have c12 : ms 12 c := ms_up c0 (by omega)
  have ref : ∀ r : Int, r = (if v = 0 then pcn c 12 else c) → wp_X9_apart f p v T (fun r2 T2 => r = r2 ∧ zR r ∧ Inv T2) := by
    intro r hr
    have rr : zR r := by
      have := pcn_le c 12
      have x1 := c12.1
      have x2 : c < 4096 := c12.2
      rw [hr]
      unfold zR
      split <;> omega
    unfold wp_X9_apart
    refine sp9_isFact a3 a5 hf ?_
    refine dec_ft (fun q => absurd q1 q) (fun _ => ?_)
    refine sp9_isOne a3 a5 hp ?_
    refine dec_tf (fun _ => ?_) (fun q => absurd q2 q)
    refine sp9_in hv (by unfold zR; omega) (by unfold zR; omega) ?_
    refine dec_tf (fun _ => ?_) (fun q => absurd qv q)
    refine sp9_knows (by decide) a4 a7 q2.1 (by omega) q1.1 (by omega) ?_
    refine dec_ft (fun _ => ?_) (fun q => absurd q hk)
    rw [a5.2.2.1, zshl_b (by omega) (by omega)]
    rintro _ rfl
    have key : ∀ (i : Nat) (e : Int), i ≤ 2 ^ (A 2 0).toNat → ms (A 2 0).toNat e → blkS A (mkS (fun p => decide (S 0 p f ≠ -1)) (A 0 0).toNat) p e = true → (i : Int) ≤ e + 1 → (∀ B, (i : Int) ≤ B → B < ((2 ^ (A 2 0).toNat : Nat) : Int) → blkS A (mkS (fun p => decide (S 0 p f ≠ -1)) (A 0 0).toNat) p B = true → kap e ≤ kap B) → h_X9_apart_60 f p v (fun r2 T2 => r = r2 ∧ zR r ∧ Inv T2) (i + 1) e ((i : Int) - 1) T := by
      intro i
      induction i with
      | zero =>
        intro e hi e0 e1 e2 e3
        have e12 : ms 12 e := ms_up e0 (by omega)
        have ce : c = e := apart_eq a3 q2.1 s1 sp c1 c2 e0 e1 (fun B hB hb => e3 B hB.1 (by have := hB.2; omega) hb)
        rw [h_X9_apart_60]
        refine ⟨by unfold zR; omega, fun _ => ⟨hv, fun w => ⟨?_, rr, A, S, h0⟩, fun w => ?_⟩, fun z => absurd (by omega) z⟩
        · rw [hr, if_neg w]
          exact ce
        · refine sp9_bits (ms_up e12 (by decide)) ⟨?_, rr, A, S, h0⟩
          rw [hr, if_pos w, ce]
      | succ i ih =>
        intro e hi e0 e1 e2 e3
        have ii : (((i + 1 : Nat) : Int) - 1) = (i : Int) := by omega
        have im : ms (A 2 0).toNat (i : Int) := ⟨by omega, by omega⟩
        have i12 : ms 12 (i : Int) := ms_up im (by omega)
        have e12 : ms 12 e := ms_up e0 (by omega)
        have l1 := pcn_le (i : Int) 12
        have l2 := pcn_le e 12
        have kl := kap_lt e12 i12
        have stay : (blkS A (mkS (fun p => decide (S 0 p f ≠ -1)) (A 0 0).toNat) p i = true → kap e ≤ kap i) → b_X9_apart_94 f p v (fun r2 T2 => r = r2 ∧ zR r ∧ Inv T2) (h_X9_apart_60 f p v (fun r2 T2 => r = r2 ∧ zR r ∧ Inv T2) (i + 1)) e i T := fun hh => by
          refine ih e (by omega) e0 e1 (by omega) (fun B b0 b1 hb => ?_)
          by_cases eq : B = i
          · subst eq
            exact hh hb
          · exact e3 B (by omega) b1 hb
        rw [ii, h_X9_apart_60]
        refine ⟨by unfold zR; omega, fun z => absurd z (by omega), fun _ => ?_⟩
        refine sp9_bits (ms_up i12 (by decide)) ?_
        refine sp9_bits (ms_up e12 (by decide)) ⟨by unfold zR; omega, by unfold zR; omega, fun w => stay (fun _ => ?_), fun w => ?_⟩
        · have := kl.mpr (Or.inl (by omega))
          omega
        · refine sp9_canCome a3 a5 (by decide) a4 a7 q1.1 q1.2 q2.1 q2.2 (ms_up i12 (by decide)) ⟨fun w2 => stay (fun hb => ?_), fun w2 => ?_⟩
          · unfold blkS at hb
            rw [w2] at hb
            exact absurd hb (by decide)
          · have bi : blkS A (mkS (fun p => decide (S 0 p f ≠ -1)) (A 0 0).toNat) p i = true := by
              unfold blkS
              rw [w2]
              rfl
            refine ih i (by omega) im bi (by omega) (fun B b0 b1 hb => ?_)
            by_cases eq : B = i
            · subst eq
              exact Int.le_refl _
            · have := e3 B (by omega) b1 hb
              have : ¬ kap e < kap i := fun hh => by
                rcases kl.mp hh with hh | hh <;> omega
              omega
    have fb : blkS A (mkS (fun p => decide (S 0 p f ≠ -1)) (A 0 0).toNat) p ((2 : Int) ^ (A 2 0).toNat - 1) = true := by
      refine side_blk a3 q2.1 s1 s1 (fun _ _ h => h) sp (fun k k0 hk => ?_)
      rw [(woS_ok a3 _).2 k k0, Bool.and_eq_true] at hk
      rw [f2 k k0]
      have := of_decide_eq_true hk.1
      exact decide_eq_true (by omega)
    have := key (2 ^ (A 2 0).toNat) ((2 : Int) ^ (A 2 0).toNat - 1) (Nat.le_refl _) f1 fb (by omega) (fun B b0 b1 => by omega)
    rw [eN] at this
    exact ⟨_, this⟩
  refine ⟨hv, fun w => ref c (by rw [if_neg w]), fun w => ?_⟩
  exact sp_bitCount c12 (ref _ (by rw [if_pos w]))
