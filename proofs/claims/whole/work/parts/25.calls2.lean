/-! seed, scales, text, images -/
def setK (S : HA) (k : Nat) (v : Int) : HA := fun k' a b => if k' = k ∧ a = 0 ∧ b = 0 then v else S k' a b
theorem setK_hit (S : HA) (k : Nat) (v : Int) : setK S k v k 0 0 = v := by simp [setK]
theorem setK_0 {S : HA} {k : Nat} {v a b : Int} (h : k ≠ 0) : setK S k v 0 a b = S 0 a b := by
  unfold setK
  rw [if_neg (fun z => h z.1.symm)]
theorem setK_ne {S : HA} {k k' : Nat} {v : Int} (h : k' ≠ k) : setK S k v k' 0 0 = S k' 0 0 := by
  unfold setK
  rw [if_neg (fun z => h z.1)]
theorem st_seed {T : TH} (H : Inv T) {v : Int} (hv : zR v) : wp_X8_seed v T (fun r1 T1 => wp_X9_seed v T1 (fun r2 T2 => r1 = r2 ∧ zR r1 ∧ Inv T2)) := by
  obtain ⟨A, S, h⟩ := H
  have h0 := h
  obtain ⟨a1, a2, a3, a4, a5, a6, a7, a8, a9, a10, a11, a12⟩ := h
  have h23 := lOK_23 a1
  unfold wp_X8_seed
  refine ⟨hv, fun hy => ?_, fun hn => ?_⟩
  · rintro _ rfl _ rfl
    unfold wp_X9_seed
    refine ⟨hv, fun _ => ?_, fun q => absurd hy q⟩
    rintro _ rfl _ rfl
    have e1 : up T 4 1 0 v 13 26 57 = S 2 0 0 := (up_ne (by omega)).trans a7.s0
    rw [e1, a8.2.1]
    have hr := a4.2.1
    have hS' : HAok A (setK S 2 v) 90099 := by
      refine ⟨by rw [setK_ne (by decide)]; exact a4.1, by rw [setK_hit]; exact ⟨hy, hv.2⟩, fun p f p0 p1 f0 f1 => ?_⟩
      rw [setK_0 (by decide), setK_ne (by decide)]
      exact a4.2.2 p f p0 p1 f0 f1
    refine ⟨rfl, by unfold zR; omega, A, setK S 2 v, h0.heads (fun o j i s1 s2 s3 => ?_) hS' ⟨fun p f p0 p1 f0 f1 => ?_, ?_, ?_⟩ ⟨?_, ?_, fun f f0 f1 => ?_, fun p f p0 p1 f0 f1 hk => ?_⟩⟩
    · rw [up_ne (by omega), up_ne (by omega)]
    · rw [up_ne (by omega), up_ne (by omega), setK_0 (by decide)]
      exact a7.1 p f p0 p1 f0 f1
    · rw [up_ne (by omega), up_ne (by omega), setK_ne (by decide)]
      exact a7.2.1
    · rw [Int.zero_add, up_eq, setK_hit]
    · rw [up_ne (by omega), up_ne (by omega), setK_ne (by decide)]
      exact a8.1
    · rw [up_ne (by omega), up_eq, setK_hit]
    · rw [up_ne (by omega), up_ne (by omega)]
      refine ⟨(a8.2.2.1 f f0 f1).1, fun p p0 p1 => ?_⟩
      rw [setK_0 (by decide)]
      exact (a8.2.2.1 f f0 f1).2 p p0 p1
    · rw [setK_0 (by decide)] at hk ⊢
      rw [up_ne (by omega), up_ne (by omega)]
      exact a8.2.2.2 p f p0 p1 f0 f1 hk
  · unfold wp_X9_seed
    exact ⟨hv, fun q => absurd q hn, fun _ => ⟨rfl, zRo, A, S, h0⟩⟩
/-- only scales, the text, the images have changed -/
def Fr3 (h : Nat) (T T' : TH) : Prop := ∀ o j i, ¬ scr h o j → ¬ o = 8 → ¬ (o = 13 ∧ (j = 31 ∨ j = 32)) → T' o j i = T o j i
theorem InvA.scales {T T' : TH} {A : LA} {S : HA} (H : InvA T A S) (f : Fr3 (T 0 1 0).toNat T T') (hR : ScaleR T' A) : InvA T' A S := by
  obtain ⟨a1, a2, a3, a4, a5, a6, a7, a8, a9, a10, a11, a12⟩ := H
  have h23 := lOK_23 a1
  have e01 : T' 0 1 0 = T 0 1 0 := f 0 1 0 (by unfold scr; omega) (by omega) (by omega)
  have e02 : T' 0 2 0 = T 0 2 0 := f 0 2 0 (by unfold scr; omega) (by omega) (by omega)
  refine ⟨by unfold lOK; rw [e01, e02]; exact a1, by rw [e01, e02]; exact a2, a3, a4, a5.off (fun j i hj => f _ _ _ (by unfold scr; omega) (by omega) (by omega)), ?_, a7.eq (fun i _ _ => f _ _ _ (by unfold scr; omega) (by omega) (by omega)), a8.eq (f _ _ _ (by unfold scr; omega) (by omega) (by omega)) (f _ _ _ (by unfold scr; omega) (by omega) (by omega)) (fun i _ _ => f _ _ _ (by unfold scr; omega) (by omega) (by omega)) (fun i _ _ => f _ _ _ (by unfold scr; omega) (by omega) (by omega)), a9.eq (f _ _ _ (by unfold scr; omega) (by omega) (by omega)) (f _ _ _ (by unfold scr; omega) (by omega) (by omega)) (fun i => f _ _ _ (by unfold scr; omega) (by omega) (by omega)) (fun i => f _ _ _ (by unfold scr; omega) (by omega) (by omega)), ?_, hR, a12.eq (f _ _ _ (by unfold scr; omega) (by omega) (by omega)) (fun i => f _ _ _ (by unfold scr; omega) (by omega) (by omega)) (fun i => f _ _ _ (by unfold scr; omega) (by omega) (by omega)) (fun o j i ho hj => f _ _ _ (by unfold scr; omega) (by omega) (by omega))⟩
  · rw [e01]
    exact a6.eq (fun j i => f _ _ _ (by unfold scr; omega) (by omega) (by omega))
  · unfold FaultR
    rw [f 1 2 0 (by unfold scr; omega) (by omega) (by omega), f 13 6 0 (by unfold scr; omega) (by omega) (by omega)]
    exact a10
theorem st_tear {T : TH} (H : Inv T) : wp_X8_tear T (fun r1 T1 => wp_X9_tear T1 (fun r2 T2 => r1 = r2 ∧ zR r1 ∧ Inv T2)) := by
  obtain ⟨A, S, h⟩ := H
  have h0 := h
  obtain ⟨a1, a2, a3, a4, a5, a6, a7, a8, a9, a10, a11, a12⟩ := h
  obtain ⟨s1, s2, s3⟩ := a11
  unfold wp_X8_tear
  rintro _ rfl _ rfl
  unfold wp_X9_tear
  rintro _ rfl _ rfl
  have e1 : up T 8 0 0 0 13 31 0 = T 13 31 0 := up_ne (by omega)
  rw [e1, s1]
  refine ⟨rfl, by unfold zR; omega, A, S, h0.scales (fun o j i q1 q2 q3 => ?_) ⟨?_, ?_, fun k k0 k1 => ?_⟩⟩
  · rw [up_ne (by omega), up_ne (by omega)]
  · rw [up_ne (by omega), up_eq, up_eq]
  · rw [up_eq]
    omega
  · rw [up_eq] at k1
    omega
theorem sp_canWeigh {w : Int} {T : TH} {Q : Bool → TH → Prop} (hw : zR w) (hq : Q (decide (-999 ≤ w ∧ w ≤ 999)) T) : wp_X8_canWeigh w T Q := by
  unfold wp_X8_canWeigh
  refine ⟨hw, fun h => ?_, fun h => ⟨hw, fun h' => ?_, fun h' => ?_⟩⟩
  · rwa [decide_eq_false (by omega)] at hq
  · rwa [decide_eq_false (by omega)] at hq
  · rwa [decide_eq_true (by omega)] at hq
theorem st_write {T : TH} (H : Inv T) {p w : Int} (hp : zR p) (hw : zR w) : wp_X8_write p w T (fun r1 T1 => wp_X9_write p w T1 (fun r2 T2 => r1 = r2 ∧ zR r1 ∧ Inv T2)) := by
  obtain ⟨A, S, h⟩ := H
  have h0 := h
  obtain ⟨a1, a2, a3, a4, a5, a6, a7, a8, a9, a10, a11, a12⟩ := h
  obtain ⟨s1, s2, s3⟩ := a11
  have n7 := a3.1
  unfold wp_X8_write
  refine sp_hasPerson a3 a6 hp ?_
  refine dec_tf (fun hy => ?_) (fun hn => ?_)
  · refine sp_canWeigh hw ?_
    refine dec_tf (fun hy2 => ?_) (fun hn => ?_)
    · unfold wp_X6_add
      refine ⟨by rw [s1]; unfold zR; omega, fun hl => ?_, fun hl => ?_⟩
      · refine ⟨by omega, by omega, ?_⟩
        rintro _ rfl
        have q1 : up T 8 1 (T 8 0 0) p 8 0 0 = T 8 0 0 := up_ne (by omega)
        rw [q1]
        refine ⟨by omega, by omega, ?_⟩
        rintro _ rfl
        have q2 : up (up T 8 1 (T 8 0 0) p) 8 2 (T 8 0 0) w 8 0 0 = T 8 0 0 := (up_ne (by omega)).trans q1
        rw [q2]
        rintro _ rfl
        rw [up_eq]
        obtain ⟨T3, hT3⟩ : ∃ T3, T3 = up (up (up T 8 1 (T 8 0 0) p) 8 2 (T 8 0 0) w) 8 0 0 (T 8 0 0 + 1) := ⟨_, rfl⟩
        rw [← hT3]
        have off : ∀ o j i, ¬ o = 8 → T3 o j i = T o j i := fun o j i ho => by
          rw [hT3, up_ne (by omega), up_ne (by omega), up_ne (by omega)]
        have m2 : LandM T3 A := a5.off (fun j i _ => off _ _ _ (by omega))
        unfold wp_X9_write
        refine sp9_isOne a3 m2 hp ?_
        refine dec_tf (fun _ => ?_) (fun q => absurd hy q)
        refine sp9_in hw (by unfold zR; omega) (by unfold zR; omega) ?_
        refine dec_tf (fun _ => ?_) (fun q => absurd hy2 q)
        rw [off 13 31 0 (by omega)]
        refine ⟨by unfold zR; omega, fun _ => ?_, fun q => absurd q (by omega)⟩
        refine ⟨by omega, by omega, ?_⟩
        rintro _ rfl
        have q3 : up T3 13 32 (2 * T 13 31 0) p 13 31 0 = T 13 31 0 := (up_ne (by omega)).trans (off 13 31 0 (by omega))
        rw [q3]
        refine ⟨by omega, by omega, ?_⟩
        rintro _ rfl
        have q4 : up (up T3 13 32 (2 * T 13 31 0) p) 13 32 (2 * T 13 31 0 + 1) w 13 31 0 = T 13 31 0 := (up_ne (by omega)).trans q3
        rw [q4]
        intro T7 hT7
        have g0 : T7 13 31 0 = T 13 31 0 + 1 := by rw [hT7, up_eq]
        have g1 : ∀ j i, T7 8 j i = T3 8 j i := fun j i => by rw [hT7, up_ne (by omega), up_ne (by omega), up_ne (by omega)]
        have g2 : ∀ i, T7 13 32 i = up (up T3 13 32 (2 * T 13 31 0) p) 13 32 (2 * T 13 31 0 + 1) w 13 32 i := fun i => by rw [hT7, up_ne (by omega)]
        rw [g0]
        refine ⟨by omega, by unfold zR; omega, A, S, h0.scales (fun o j i r1 r2 r3 => ?_) ⟨?_, ?_, fun k k0 k1 => ?_⟩⟩
        · rw [hT7, up_ne (by omega), up_ne (by omega), up_ne (by omega)]
          exact off _ _ _ r2
        · rw [g0, g1, hT3, up_eq]
          omega
        · rw [g0]
          omega
        · rw [g0] at k1
          rw [g1, g1, g2, g2]
          by_cases e : k = T 13 31 0
          · subst e
            have v1 : up (up T3 13 32 (2 * T 13 31 0) p) 13 32 (2 * T 13 31 0 + 1) w 13 32 (2 * T 13 31 0) = p := by rw [up_ne (by omega), up_eq]
            have v3 : T3 8 1 (T 13 31 0) = p := by rw [hT3, up_ne (by omega), up_ne (by omega), s1, up_eq]
            have v4 : T3 8 2 (T 13 31 0) = w := by rw [hT3, up_ne (by omega), s1, up_eq]
            rw [v1, up_eq, v3, v4]
            exact ⟨rfl, rfl, hy, hy2⟩
          · have v1 : up (up T3 13 32 (2 * T 13 31 0) p) 13 32 (2 * T 13 31 0 + 1) w 13 32 (2 * k) = T 13 32 (2 * k) := by rw [up_ne (by omega), up_ne (by omega)]; exact off _ _ _ (by omega)
            have v2 : up (up T3 13 32 (2 * T 13 31 0) p) 13 32 (2 * T 13 31 0 + 1) w 13 32 (2 * k + 1) = T 13 32 (2 * k + 1) := by rw [up_ne (by omega), up_ne (by omega)]; exact off _ _ _ (by omega)
            have v3 : T3 8 1 k = T 8 1 k := by rw [hT3, up_ne (by omega), up_ne (by omega), up_ne (by omega)]
            have v4 : T3 8 2 k = T 8 2 k := by rw [hT3, up_ne (by omega), up_ne (by omega), up_ne (by omega)]
            rw [v1, v2, v3, v4]
            exact s3 k k0 (by omega)
      · unfold wp_X9_write
        refine sp9_isOne a3 a5 hp ?_
        refine dec_tf (fun _ => ?_) (fun q => absurd hy q)
        refine sp9_in hw (by unfold zR; omega) (by unfold zR; omega) ?_
        refine dec_tf (fun _ => ?_) (fun q => absurd hy2 q)
        exact ⟨by unfold zR; omega, fun q => absurd (by omega) q, fun _ => ⟨rfl, zRf, A, S, h0⟩⟩
    · unfold wp_X9_write
      refine sp9_isOne a3 a5 hp ?_
      refine dec_tf (fun _ => ?_) (fun q => absurd hy q)
      refine sp9_in hw (by unfold zR; omega) (by unfold zR; omega) ?_
      exact dec_tf (fun q => absurd q hn) (fun _ => ⟨rfl, zRo, A, S, h0⟩)
  · unfold wp_X9_write
    refine sp9_isOne a3 a5 hp ?_
    exact dec_tf (fun q => absurd q hn) (fun _ => ⟨rfl, zRu, A, S, h0⟩)
/-- which scale is the first that is wrong -/
def fwS (A : LA) (S : HA) (P W : Int → Int) (n : Nat) : Nat → Int
  | 0 => -1
  | d + 1 => if wtS A S (P ((n : Int) - (d + 1))) = W ((n : Int) - (d + 1)) then fwS A S P W n d else (n : Int) - (d + 1)
theorem st_judge {T : TH} (H : Inv T) : wp_X8_judge T (fun r1 T1 => wp_X9_judge T1 (fun r2 T2 => r1 = r2 ∧ zR r1 ∧ Inv T2)) := by
  obtain ⟨A, S, h⟩ := H
  have h0 := h
  obtain ⟨a1, a2, a3, a4, a5, a6, a7, a8, a9, a10, a11, a12⟩ := h
  obtain ⟨s1, s2, s3⟩ := a11
  have n7 := a3.1
  obtain ⟨n, hn⟩ : ∃ n : Nat, T 13 31 0 = n := ⟨(T 13 31 0).toNat, by omega⟩
  obtain ⟨P, hP⟩ : ∃ P : Int → Int, P = fun k => T 13 32 (2 * k) := ⟨_, rfl⟩
  obtain ⟨W, hW⟩ : ∃ W : Int → Int, W = fun k => T 13 32 (2 * k + 1) := ⟨_, rfl⟩
  have rng : ∀ d : Nat, d ≤ n → -1 ≤ fwS A S P W n d ∧ fwS A S P W n d ≤ 15 := by
    intro d
    induction d with
    | zero => intro _; rw [fwS]; omega
    | succ d ih =>
      intro hd
      rw [fwS]
      split
      · exact ih (by omega)
      · omega
  have ref : wp_X9_judge T (fun r2 T2 => fwS A S P W n n = r2 ∧ zR (fwS A S P W n n) ∧ Inv T2) := by
    unfold wp_X9_judge
    refine ⟨n + 1, ?_⟩
    have key : ∀ d i : Nat, i + d = n → fwS A S P W n n = fwS A S P W n d → h_X9_judge_2 (fun r2 T2 => fwS A S P W n n = r2 ∧ zR (fwS A S P W n n) ∧ Inv T2) (d + 1) i T := by
      intro d
      induction d with
      | zero =>
        intro i hi he
        rw [h_X9_judge_2, hn]
        refine ⟨by unfold zR; omega, by unfold zR; omega, fun _ => ?_, fun q => absurd (by omega) q⟩
        have := rng n (Nat.le_refl _)
        exact ⟨he, by unfold zR; omega, A, S, h0⟩
      | succ d ih =>
        intro i hi he
        have e1 : (n : Int) - (d + 1) = i := by omega
        obtain ⟨t1, t2, t3, t4⟩ := s3 i (by omega) (by omega)
        rw [h_X9_judge_2, hn]
        refine ⟨by unfold zR; omega, by unfold zR; omega, fun q => absurd q (by omega), fun _ => ⟨by omega, by omega, ?_⟩⟩
        refine sp9_weightOf a3 a5 (by decide) a4 a7 (by unfold zR; omega) ?_
        have w := wtS_R a3 S (T 13 32 (2 * i))
        refine ⟨by omega, by omega, by unfold zR; omega, by unfold zR; omega, fun q => ?_, fun q => ?_⟩
        · refine ih (i + 1) (by omega) (he.trans ?_)
          rw [fwS, e1, hP, hW, if_pos q]
        · have := rng n (Nat.le_refl _)
          refine ⟨he.trans ?_, by unfold zR; omega, A, S, h0⟩
          rw [fwS, e1, hP, hW, if_neg q]
    exact key n 0 (by omega) rfl
  unfold wp_X8_judge wp_X6_firstWrong
  refine ⟨n + 1, ?_⟩
  have key : ∀ d i : Nat, i + d = n → fwS A S P W n n = fwS A S P W n d → h_X6_firstWrong_2 (T 0 1 0).toNat 4 (fun r2 T1 => wp_X9_judge T1 (fun r3 T2 => r2 = r3 ∧ zR r2 ∧ Inv T2)) (d + 1) i T := by
    intro d
    induction d with
    | zero =>
      intro i hi he
      rw [h_X6_firstWrong_2, s1, hn]
      refine ⟨by unfold zR; omega, by unfold zR; omega, fun _ => ?_, fun q => absurd (by omega) q⟩
      have e2 : (-1 : Int) = fwS A S P W n n := he.symm
      rw [e2]
      exact ref
    | succ d ih =>
      intro i hi he
      have e1 : (n : Int) - (d + 1) = i := by omega
      obtain ⟨t1, t2, t3, t4⟩ := s3 i (by omega) (by omega)
      rw [h_X6_firstWrong_2, s1, hn]
      refine ⟨by unfold zR; omega, by unfold zR; omega, fun q => absurd q (by omega), fun _ => ⟨by omega, by omega, ?_⟩⟩
      rw [t1]
      refine sp_load a3 a6 a4 a8 t3.1 t3.2 ?_
      have w := wtS_R a3 S (T 13 32 (2 * i))
      rw [t2]
      refine ⟨by omega, by omega, by unfold zR; omega, by unfold zR; omega, fun q => ?_, fun q => ?_⟩
      · refine ih (i + 1) (by omega) (he.trans ?_)
        rw [fwS, e1, hP, hW, if_pos q]
      · have e2 : (i : Int) = fwS A S P W n n := by
          rw [he, fwS, e1, hP, hW, if_neg q]
        rw [e2]
        exact ref
  exact key n 0 (by omega) rfl
