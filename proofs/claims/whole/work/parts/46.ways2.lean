/-! ways: the class -/
theorem sp_pull {A : LA} {T : TH} {o : Nat} (hA : LAok A) (hC : LandC T o A) {f : Int} {Q : Int → TH → Prop} (f0 : 0 ≤ f) (f1 : f < A 1 0) (hq : Q (plS A f) T) : wp_X3_pull o f T Q := by
  have a1 := hA.2.1
  unfold wp_X3_pull
  refine sp_isLie hA hC f0 f1 ?_
  rw [(hC.2.2.2.2.2.2.2.1 f f0 f1).2]
  unfold plS at hq
  refine dec_ft (fun h => ⟨f0, by omega, ?_⟩) (fun h => ⟨f0, by omega, ?_⟩)
  · rwa [if_neg h] at hq
  · rwa [if_pos h] at hq
theorem sp_wAdd {T : TH} {g m tp : Int} {R N : Int → Int} (g0 : 1 ≤ g) (m0 : 0 ≤ m) (m6 : m ≤ 6) (t0 : 0 ≤ tp) (t1 : tp + g * m ≤ 432) (hT : T 10 2 0 = tp) (hR : ∀ x, 0 ≤ x → x < 433 → T 10 0 x = R x) (hneg : ∀ x, x < 0 → R x = 0) (hN : ∀ x, 0 ≤ x → x ≤ tp + g * m → N x = sZ (fun k => R (x - k * g)) (m + 1).toNat) (hN2 : ∀ x, tp + g * m < x → x < 433 → N x = R x) {Q : TH → Prop} (hq : ∀ T', (∀ x, 0 ≤ x → x < 433 → T' 10 0 x = N x) → T' 10 2 0 = tp + g * m → (∀ (o j : Nat) (i : Int), ¬ (o = 10 ∧ (j = 0 ∨ j = 2)) → T' o j i = T o j i) → Q T') : wp_X7_addFact g m T Q := by
  have gm : 0 ≤ g * m := Int.mul_nonneg (by omega) m0
  unfold wp_X7_addFact
  rw [hT]
  refine ⟨by unfold zR; omega, ?_⟩
  intro T1 h1 w hw
  have hz : zmin 432 (tp + g * m) = tp + g * m := by
    unfold zmin
    split <;> omega
  rw [hz] at h1
  have hw : w = tp + g * m := by rw [hw, h1, up_eq]
  refine ⟨(tp + g * m).toNat + 2, ?_⟩
  have key : ∀ (d : Nat) (v : Int) (T2 : TH), v = (d : Int) - 1 → v ≤ tp + g * m → (∀ x, 0 ≤ x → x < 433 → (x ≤ v → T2 10 0 x = R x) ∧ (v < x → T2 10 0 x = N x)) → T2 10 2 0 = tp + g * m → (∀ (o j : Nat) (i : Int), ¬ (o = 10 ∧ (j = 0 ∨ j = 2)) → T2 o j i = T o j i) → h_X7_addFact_23 g m Q (d + 1) v T2 := by
    intro d
    induction d with
    | zero =>
      intro v T2 hv hv2 k1 k2 k3
      rw [h_X7_addFact_23]
      refine ⟨by unfold zR; omega, fun _ => ?_, fun h => absurd (by omega) h⟩
      exact hq T2 (fun x x0 x1 => (k1 x x0 x1).2 (by omega)) k2 k3
    | succ d ih =>
      intro v T2 hv hv2 k1 k2 k3
      rw [h_X7_addFact_23]
      refine ⟨by unfold zR; omega, fun h => absurd h (by omega), fun _ => ⟨(m + 1).toNat + 1, ?_⟩⟩
      have fin : b_X7_addFact_69 g m Q (h_X7_addFact_23 g m Q (d + 1)) v (N v) T2 := by
        unfold b_X7_addFact_69
        refine ⟨by omega, by omega, ?_⟩
        rintro _ rfl
        refine ih (v + -1) _ (by omega) (by omega) (fun x x0 x1 => ⟨fun hx => ?_, fun hx => ?_⟩) ?_ (fun o j i hn => ?_)
        · rw [up_ne (by omega)]
          exact (k1 x x0 x1).1 (by omega)
        · by_cases e : x = v
          · subst e
            rw [up_eq]
          · rw [up_ne (by omega)]
            exact (k1 x x0 x1).2 (by omega)
        · rw [up_ne (by omega)]
          exact k2
        · rw [up_ne (by omega)]
          exact k3 o j i hn
      have inner : ∀ (c h : Nat), h + c = (m + 1).toNat → h_X7_addFact_33 g m Q (h_X7_addFact_23 g m Q (d + 1)) (c + 1) v (sZ (fun k => R (v - k * g)) h) h T2 := by
        intro c
        induction c with
        | zero =>
          intro h hh
          rw [h_X7_addFact_33]
          refine ⟨by unfold zR; omega, by unfold zR; omega, fun _ => ?_, fun q => absurd (by omega) q⟩
          have e : h = (m + 1).toNat := by omega
          subst e
          rw [← hN v (by omega) (by omega)]
          exact fin
        | succ c ihc =>
          intro h hh
          have mg := mul_le6 (g := g) (k := (h : Int)) (m := m) (by omega) (by omega) (by omega)
          have ihn := ihc (h + 1) (by omega)
          rw [sZ] at ihn
          rw [h_X7_addFact_33]
          refine ⟨by unfold zR; omega, by unfold zR; omega, fun q => absurd q (by omega), fun _ => ⟨by unfold zR; omega, by unfold zR; omega, fun q => ?_, fun q => ?_⟩⟩
          · have e : sZ (fun k => R (v - k * g)) (m + 1).toNat = sZ (fun k => R (v - k * g)) h := sZ_more (by omega) (fun i i0 i1 => by
              show R (v - i * g) = 0
              refine hneg _ ?_
              have := Int.mul_le_mul_of_nonneg_right i0 (show 0 ≤ g by omega)
              omega)
            rw [← e, ← hN v (by omega) (by omega)]
            exact fin
          · refine ⟨by omega, by omega, ?_⟩
            rintro _ rfl
            rw [(k1 _ (by omega) (by omega)).1 (by omega)]
            exact ihn
      exact inner (m + 1).toNat 0 (by omega)
  rw [hw]
  refine key ((tp + g * m).toNat + 1) _ _ (by omega) (by omega) (fun x x0 x1 => ⟨fun hx => ?_, fun hx => ?_⟩) ?_ (fun o j i hn => ?_)
  · rw [h1, up_ne (by omega)]
    exact hR x x0 x1
  · rw [h1, up_ne (by omega), hN2 x hx x1]
    exact hR x x0 x1
  · rw [h1, up_eq]
  · rw [h1, up_ne (by omega)]
def WyR (T : TH) (A : LA) (P : Int → Bool) (i : Nat) : Prop := (∀ x, 0 ≤ x → x < 433 → T 10 0 x = wyS A P i (x + loS A P i)) ∧ T 10 1 0 = loS A P i ∧ T 10 2 0 = tpS A P i
theorem wyS_no {A : LA} {P : Int → Bool} {i : Nat} (h : ¬ P i = true) : (∀ w, wyS A P (i + 1) w = wyS A P i w) ∧ loS A P (i + 1) = loS A P i ∧ tpS A P (i + 1) = tpS A P i := by
  refine ⟨fun w => ?_, ?_, ?_⟩
  · rw [wyS_s, if_neg h]
  · rw [loS, if_neg (fun z => h z.1)]
    omega
  · rw [tpS, if_neg h]
    omega
theorem sp_wSpread {A : LA} {T : TH} {o : Nat} (ho : o = 2 ∨ o = 3) (hA : LAok A) (hn : 1 ≤ A 0 0) (hC : LandC T o A) {s : Int} (hs : ms 31 s) {Q : TH → Prop} (hq : ∀ T', WyR T' A (bt s) (A 1 0).toNat → (∀ (o' j : Nat) (i : Int), ¬ o' = 10 → T' o' j i = T o' j i) → Q T') : wp_X7_spread o s T Q := by
  have n0 := hA.1
  have n1 := hA.2.1
  unfold wp_X7_spread
  refine sp_fill (by decide) (fun T1 f1 f2 => ?_)
  intro T2 h2 T3 h3 T4 h4 w hw
  have c4 : ∀ (o' j : Nat) (i : Int), ¬ o' = 10 → T4 o' j i = T o' j i := fun o' j i hno => by
    rw [h4, up_ne (by omega), h3, up_ne (by omega), h2, up_ne (by omega)]
    exact f2 _ _ _ (by omega)
  have hw : w = A 0 0 - 1 := by rw [hw, c4 _ _ _ (by omega), hC.1]
  subst hw
  refine ⟨(A 1 0).toNat + 1, ?_⟩
  have key : ∀ (d i : Nat) (T5 : TH), i + d = (A 1 0).toNat → WyR T5 A (bt s) i → (∀ (o' j : Nat) (i : Int), ¬ o' = 10 → T5 o' j i = T o' j i) → h_X7_spread_35 o s Q (d + 1) (A 0 0 - 1) i T5 := by
    intro d
    induction d with
    | zero =>
      intro i T5 hi hW fr
      have C5 : LandC T5 o A := hC.off (fun j x => fr o j x (by omega))
      rw [h_X7_spread_35, C5.2.1]
      refine ⟨by unfold zR; omega, by unfold zR; omega, fun _ => ?_, fun h => absurd (by omega) h⟩
      rw [show i = (A 1 0).toNat by omega] at hW
      exact hq T5 hW fr
    | succ d ih =>
      intro i T5 hi hW fr
      have C5 : LandC T5 o A := hC.off (fun j x => fr o j x (by omega))
      have tR := tpS_R hA hn (bt s) i (by omega)
      have gR := gm_R hA hn (i := i) (by omega)
      have g3 := (hA.2.2.2.2.2.2.1 i (by omega) (by omega)).2.1
      have e9 := (C5.2.2.2.2.2.2.2.1 i (by omega) (by omega)).2
      obtain ⟨w1, w2, w3⟩ := hW
      rw [h_X7_spread_35, C5.2.1]
      refine ⟨by unfold zR; omega, by unfold zR; omega, fun h => absurd h (by omega), fun _ => ?_⟩
      refine bit_ne hs (by omega) (by omega) (fun hb => ?_) (fun hb => ?_)
      · unfold b_X7_spread_96
        obtain ⟨x1, x2, x3⟩ := wyS_no (A := A) (P := bt s) (i := i) (by rw [hb]; decide)
        refine ih (i + 1) T5 (by omega) ⟨fun x x0 xx => ?_, by rw [x2]; exact w2, by rw [x3]; exact w3⟩ fr
        rw [x1, x2]
        exact w1 x x0 xx
      · have fin : ∀ c : Int, c = (if bt s i = true ∧ A 8 i = 1 then A 7 i * (A 0 0 - 1) else 0) → b_X7_spread_80 o s Q (h_X7_spread_35 o s Q (d + 1)) (A 0 0 - 1) i (T5 10 1 0) c T5 := by
          intro c hc
          unfold b_X7_spread_80
          intro T6 h6
          refine ⟨by omega, by omega, ?_⟩
          have fr6 : ∀ (o' j : Nat) (x : Int), ¬ (o' = 10 ∧ j = 1) → T6 o' j x = T5 o' j x := fun o' j x hno => by rw [h6, up_ne (by omega)]
          rw [fr6 _ _ _ (by omega), e9]
          have lo1 : loS A (bt s) (i + 1) = loS A (bt s) i - c := by rw [loS, hc]
          have tp1 : tpS A (bt s) (i + 1) = tpS A (bt s) i + A 7 i * (A 0 0 - 1) := by rw [tpS, if_pos hb]
          refine sp_wAdd (R := fun x => wyS A (bt s) i (x + loS A (bt s) i)) (N := fun x => wyS A (bt s) (i + 1) (x + loS A (bt s) (i + 1))) (tp := tpS A (bt s) i) (by omega) (by omega) (by omega) (by omega) (by omega) (by rw [fr6 _ _ _ (by omega)]; exact w3) (fun x x0 xx => by rw [fr6 _ _ _ (by omega)]; exact w1 x x0 xx) (fun x hx => ?_) (fun x x0 xx => ?_) (fun x x0 xx => ?_) (fun T7 t1 t2 t3 => ?_)
          · exact wyS_out hA hn (bt s) i _ (by omega) (by omega)
          · rw [show A 0 0 - 1 + 1 = A 0 0 by omega]
            exact wy_step hA hn (by omega) hb x
          · show wyS A (bt s) (i + 1) (x + loS A (bt s) (i + 1)) = wyS A (bt s) i (x + loS A (bt s) i)
            rw [wyS_out hA hn (bt s) i _ (by omega) (by omega), wyS_out hA hn (bt s) (i + 1) _ (by omega) (by omega)]
          · unfold b_X7_spread_96
            refine ih (i + 1) T7 (by omega) ⟨t1, ?_, by rw [t2, tp1]⟩ (fun o' j x hno => ?_)
            · rw [t3 _ _ _ (by omega), h6, up_eq, w2, lo1]
            · rw [t3 _ _ _ (by omega), fr6 _ _ _ (by omega)]
              exact fr o' j x hno
        refine sp_isLie hA C5 (by omega) (by omega) ?_
        refine dec_ft (fun hl => fin 0 ?_) (fun hl => ⟨by omega, by omega, fin _ ?_⟩)
        · rw [if_neg (fun z => hl z.2)]
        · rw [if_pos ⟨hb, hl⟩, e9]
  refine key (A 1 0).toNat 0 T4 (by omega) ⟨fun x x0 xx => ?_, ?_, ?_⟩ c4
  · rw [wyS_0, loS, Int.add_zero, h4, up_ne (by omega), h3, up_ne (by omega), h2]
    by_cases e : x = 0
    · subst e
      rw [up_eq]
      rfl
    · rw [up_ne (by omega), if_neg e]
      exact f1 x x0 xx
  · rw [h4, up_ne (by omega), h3, up_eq]
    rfl
  · rw [h4, up_eq]
    rfl
theorem sp_countAt {A : LA} {T : TH} {P : Int → Bool} (hA : LAok A) (hn : 1 ≤ A 0 0) (hW : WyR T A P (A 1 0).toNat) {w : Int} (w0 : -2000 ≤ w) (w1 : w ≤ 2000) {Q : Int → TH → Prop} (hq : Q (wyS A P (A 1 0).toNat w) T) : wp_X7_countAt w T Q := by
  have n1 := hA.2.1
  obtain ⟨h1, h2, h3⟩ := hW
  have tR := tpS_R hA hn P (A 1 0).toNat (by omega)
  have out := wyS_out hA hn P (A 1 0).toNat w (by omega)
  unfold wp_X7_countAt
  rw [h2, h3]
  rintro _ rfl
  refine ⟨by unfold zR; omega, fun q => ?_, fun q => ⟨by unfold zR; omega, by unfold zR; omega, fun q2 => ?_, fun q2 => ⟨by omega, by omega, ?_⟩⟩⟩
  · rw [out (by omega)] at hq
    exact hq
  · rw [out (by omega)] at hq
    exact hq
  · rw [h1 _ (by omega) (by omega), show w - loS A P (A 1 0).toNat + loS A P (A 1 0).toNat = w by omega]
    exact hq
def cwB (A : LA) (P : Int → Bool) (f w h : Int) : Bool := decide (0 < wyS A P (A 1 0).toNat (w - h * plS A f))
def mxF (C : Int → Bool) : Nat → Int
  | 0 => -1
  | d + 1 => if C d = true then d else mxF C d
theorem pl_R {A : LA} (hA : LAok A) {f : Int} (f0 : 0 ≤ f) (f1 : f < A 1 0) {h : Int} (h0 : 0 ≤ h) (h1 : h ≤ 7) : -63 ≤ h * plS A f ∧ h * plS A f ≤ 63 := by
  have g3 := (hA.2.2.2.2.2.2.1 f f0 f1).2.1
  have m := mul_le6 (g := A 7 f) (k := h) (m := 7) (by omega) h0 h1
  unfold plS
  split
  · rw [Int.mul_neg]
    omega
  · omega
theorem sp_fewestHeads {A : LA} {T : TH} {o : Nat} {P : Int → Bool} (hA : LAok A) (hn : 1 ≤ A 0 0) (hC : LandC T o A) (hW : WyR T A P (A 1 0).toNat) {f w : Int} (f0 : 0 ≤ f) (f1 : f < A 1 0) (w0 : -999 ≤ w) (w1 : w ≤ 999) {Q : Int → TH → Prop} (hq : Q (lwF (cwB A P f w) (A 0 0).toNat 0) T) : wp_X7_fewestHeads o f w T Q := by
  have n0 := hA.1
  unfold wp_X7_fewestHeads
  refine ⟨(A 0 0).toNat + 1, ?_⟩
  have key : ∀ (d i : Nat), i + d = (A 0 0).toNat → Q (lwF (cwB A P f w) d i) T → h_X7_fewestHeads_3 o f w Q (d + 1) i T := by
    intro d
    induction d with
    | zero =>
      intro i hi hq
      rw [h_X7_fewestHeads_3, hC.1]
      exact ⟨by unfold zR; omega, by unfold zR; omega, fun _ => hq, fun h => absurd (by omega) h⟩
    | succ d ih =>
      intro i hi hq
      have pr := pl_R hA f0 f1 (h := i) (by omega) (by omega)
      rw [h_X7_fewestHeads_3, hC.1]
      refine ⟨by unfold zR; omega, by unfold zR; omega, fun h => absurd h (by omega), fun _ => ?_⟩
      refine sp_pull hA hC f0 f1 ?_
      refine sp_countAt hA hn hW (by omega) (by omega) ?_
      have r := wyS_8 hA P (i := (A 1 0).toNat) (Nat.le_refl _) (w - i * plS A f)
      rw [lwF] at hq
      refine ⟨by unfold zR; omega, fun q => ?_, fun q => ?_⟩
      · rw [if_neg (by unfold cwB; rw [decide_eq_true_iff]; omega)] at hq
        exact ih (i + 1) (by omega) hq
      · rw [if_pos (by unfold cwB; rw [decide_eq_true_iff]; omega)] at hq
        exact hq
  exact key (A 0 0).toNat 0 (by omega) hq
theorem sp_mostHeads {A : LA} {T : TH} {o : Nat} {P : Int → Bool} (hA : LAok A) (hn : 1 ≤ A 0 0) (hC : LandC T o A) (hW : WyR T A P (A 1 0).toNat) {f w : Int} (f0 : 0 ≤ f) (f1 : f < A 1 0) (w0 : -999 ≤ w) (w1 : w ≤ 999) {Q : Int → TH → Prop} (hq : Q (mxF (cwB A P f w) (A 0 0).toNat) T) : wp_X7_mostHeads o f w T Q := by
  have n0 := hA.1
  unfold wp_X7_mostHeads
  rw [hC.1]
  rintro _ rfl
  refine ⟨(A 0 0).toNat + 1, ?_⟩
  have key : ∀ (d : Nat) (v : Int), v = (d : Int) - 1 → d ≤ (A 0 0).toNat → Q (mxF (cwB A P f w) d) T → h_X7_mostHeads_8 o f w Q (d + 1) v T := by
    intro d
    induction d with
    | zero =>
      intro v hv hd hq
      rw [h_X7_mostHeads_8]
      exact ⟨by unfold zR; omega, fun _ => hq, fun h => absurd (by omega) h⟩
    | succ d ih =>
      intro v hv hd hq
      have hv : v = d := by omega
      subst hv
      have pr := pl_R hA f0 f1 (h := d) (by omega) (by omega)
      rw [h_X7_mostHeads_8]
      refine ⟨by unfold zR; omega, fun h => absurd h (by omega), fun _ => ?_⟩
      refine sp_pull hA hC f0 f1 ?_
      refine sp_countAt hA hn hW (by omega) (by omega) ?_
      have r := wyS_8 hA P (i := (A 1 0).toNat) (Nat.le_refl _) (w - d * plS A f)
      rw [mxF] at hq
      refine ⟨by unfold zR; omega, fun q => ?_, fun q => ?_⟩
      · rw [if_neg (by unfold cwB; rw [decide_eq_true_iff]; omega)] at hq
        exact ih _ (by omega) (by omega) hq
      · rw [if_pos (by unfold cwB; rw [decide_eq_true_iff]; omega)] at hq
        exact hq
  exact key (A 0 0).toNat _ (by omega) (Nat.le_refl _) hq
