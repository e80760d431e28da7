/-! reading a text: the reference's loop -/
theorem sp9_isRead {T : TH} {X : Int → Int} {n k pl : Int} {A' : LA} (hT : TxM T X n) (h6 : T 13 6 0 = -1) (hR : RdP X n 250 ld0 (skS X n 0) k pl A') {Q : Bool → TH → Prop} (g0 : k = 0 → ∀ T', F9 T T' → T' 13 6 0 = -1 → RfM T' A' → Q true T') (g1 : k ≠ 0 → ∀ T', F9 T T' → T' 13 7 0 = k → T' 13 6 0 = pl → 0 ≤ pl → pl ≤ n → Q false T') : wp_X9_isRead T Q := by
  have hn := hT.2.1
  have done : ∀ (m : Nat) (T2 : TH), k = 0 → T2 13 6 0 = -1 → F9 T T2 → RfM T2 A' → h_X9_isRead_37 Q (m + 1) false T2 := by
    intro m T2 k0 a6 F R
    rw [h_X9_isRead_37, a6]
    exact ⟨fun _ => ⟨by unfold zR; omega, fun z => absurd rfl z, fun _ => g0 k0 T2 F a6 R⟩, fun z => absurd z (by decide)⟩
  have key : ∀ (d : Nat) (p q : Int) (T1 : TH) (A : LA), RdP X n d A p k pl A' → n - p ≤ d → skS X n q = p → 0 ≤ q → q ≤ n → T1 13 2 0 = q → RfM T1 A → LAk A → T1 13 6 0 = -1 → F9 T T1 → h_X9_isRead_37 Q (d + 1 + 1) true T1 := by
    intro d
    induction d with
    | zero =>
      intro p q T1 A hRd hd hs q0 q1 hp R1 K1 b6 F
      have hT1 := hT.fr F
      have sR := skS_R X hn.2 q0
      have sn := sR.2.1 q1
      rw [RdP] at hRd
      obtain ⟨k0, eA⟩ := hRd
      rw [h_X9_isRead_37]
      refine ⟨fun z => absurd z (by decide), fun _ => ?_⟩
      refine sp9_token hT1 hp q0 q1 (fun e T2 N a3 a4 => ?_) (fun dg => absurd dg.1 (by omega)) (fun e => absurd e (by omega))
      rw [a4]
      refine ⟨by unfold zR; omega, fun z => absurd rfl z, fun _ => done 0 T2 k0 (by rw [N _ _ _ (by omega), b6]) (F.tr N.f) ?_⟩
      rw [eA]
      exact R1.n N
    | succ d ih =>
      intro p q T1 A hRd hd hs q0 q1 hp R1 K1 b6 F
      have hT1 := hT.fr F
      have sR := skS_R X hn.2 q0
      have sn := sR.2.1 q1
      have n0 := K1.1.1
      rw [RdP] at hRd
      rw [h_X9_isRead_37]
      refine ⟨fun z => absurd z (by decide), fun _ => ?_⟩
      rcases hRd with ⟨pn, k0, eA⟩ | ⟨pn, hcl⟩
      · refine sp9_token hT1 hp q0 q1 (fun e T2 N a3 a4 => ?_) (fun dg => absurd dg.1 (by omega)) (fun e => absurd e (by omega))
        rw [a4]
        refine ⟨by unfold zR; omega, fun z => absurd rfl z, fun _ => done _ T2 k0 (by rw [N _ _ _ (by omega), b6]) (F.tr N.f) ?_⟩
        rw [eA]
        exact R1.n N
      · have ex : ∃ (k1 pl1 p1 : Int) (A1 : LA), ClP X n A p k1 pl1 p1 A1 ∧ ∀ T2, N9 T1 T2 → EdR T2 k1 pl1 p1 A1 (h_X9_isRead_37 Q (d + 1 + 1)) := by
          rcases hcl with ⟨p', A1, ⟨pp, pn'⟩, KA, hc, hr⟩ | ⟨⟨k0, k1⟩, hc⟩
          · refine ⟨0, 0, p', A1, hc, fun T2 N => ⟨fun _ T3 F3 c6 c2 R3 => ?_, fun z => absurd rfl z⟩⟩
            have s2 := skS_R X hn.2 (p := p') (by omega)
            exact ih (skS X n p') p' T3 A1 hr (by omega) rfl (by omega) pn' c2 R3 KA (by rw [c6, N _ _ _ (by omega), b6]) ((F.tr N.f).tr F3)
          · refine ⟨k, pl, 0, A, hc, fun T2 N => ⟨fun z => absurd z (by omega), fun kz T3 F3 c7 c6 => ?_⟩⟩
            have plb := ClP_pl hn.2 (by omega) pn kz hc
            rw [h_X9_isRead_37, c6]
            exact ⟨fun _ => ⟨by unfold zR; omega, fun _ => g1 kz T3 ((F.tr N.f).tr F3) c7 c6 plb.1 plb.2, fun z => absurd z (by omega)⟩, fun z => absurd z (by decide)⟩
        obtain ⟨k1, pl1, p1, A1, hC, hq⟩ := ex
        refine sp9_token hT1 hp q0 q1 (fun e => absurd e (by omega)) (fun dg T2 N a3 a2 a5 a4 => ?_) (fun e nd T2 N a3 a2 a4 => ?_)
        · rw [hs] at dg a3
          obtain ⟨dg1, dg2, dg3⟩ := dg
          have R2 := R1.n N
          have r : T2 13 4 0 = -1 ∨ T2 13 4 0 = -3 := by
            rw [a4]
            split
            · exact Or.inl rfl
            · exact Or.inr rfl
          have w1 : fwW A (X p) = 1 := by
            by_cases z : A 0 0 = 0
            · exact fw_n0 (by omega) z
            · exact fw_n z (by omega) (by omega) (by omega) (by omega) (by omega) (by omega) (by omega)
          have fl : wp_X9_fails 1 T2 (h_X9_isRead_37 Q (d + 1 + 1)) := sp9_bad hC w1 (by decide) a3 (hq T2 N)
          have zr : zR (T2 13 4 0) := by
            unfold zR
            omega
          rw [R2.1]
          exact ⟨zr, fun _ => ⟨zr, fun _ => ⟨by unfold zR; omega, fun _ => ⟨zr, fun _ => ⟨zr, fun _ => ⟨zr, fun _ => ⟨zr, fun _ => ⟨zr, fun _ => ⟨zr, fun _ => fl, fun z => absurd z (by omega)⟩, fun z => absurd z (by omega)⟩, fun z => absurd z (by omega)⟩, fun z => absurd z (by omega)⟩, fun z => absurd z (by omega)⟩, fun z => absurd z (by omega)⟩, fun _ => fl⟩, fun z => absurd z (by omega)⟩, fun z => absurd z (by omega)⟩
        · rw [hs] at a2 a3 a4
          have R2 := R1.n N
          have hT2 := hT1.fr N.f
          have xR := hT.2.2 p (by omega) pn
          have Q2 := hq T2 N
          have zr : zR (X p) := by
            unfold zR
            omega
          rw [a4, R2.1]
          refine ⟨zr, fun _ => ⟨zr, fun e1 => ⟨by unfold zR; omega, fun nz => ⟨zr, fun e2 => ⟨zr, fun e3 => ⟨zr, fun e4 => ⟨zr, fun e5 => ⟨zr, fun e6 => ⟨zr, fun e7 => ?_, fun e => ?_⟩, fun e => ?_⟩, fun e => ?_⟩, fun e => ?_⟩, fun e => ?_⟩, fun e => ?_⟩, fun z => ?_⟩, fun e => ?_⟩, fun z => absurd z (by omega)⟩
          · exact sp9_bad hC (fw_n nz e1 e2 e4 e6 e7 e3 e5) (by decide) a3 Q2
          · exact sp9_lHours hC e nz hT2 a2 a3 (by omega) pn R2 K1 Q2
          · exact sp9_lBridge hC e nz hT2 a2 a3 (by omega) pn R2 K1 Q2
          · exact sp9_lQuiet hC e nz hT2 a2 a3 (by omega) pn R2 K1 Q2
          · exact sp9_lPair hC e nz hT2 a2 a3 (by omega) pn R2 K1 Q2
          · exact sp9_lKnown hC e nz hT2 a2 a3 (by omega) pn R2 K1 Q2
          · exact sp9_lFact hC e nz hT2 a2 a3 (by omega) pn R2 K1 Q2
          · exact sp9_bad hC (fw_n0 e1 z) (by decide) a3 Q2
          · exact sp9_lPeople hC e hT2 a2 a3 (by omega) pn R2 K1 Q2
  unfold wp_X9_isRead
  intro T1 h1 T2 h2 T3 h3 T4 h4 T5 h5 T6 h6' T7 h7
  have sR := skS_R X hn.2 (p := 0) (by decide)
  have F : F9 T T7 := fun o j i h => by rw [h7, up_ne (by omega), h6', up_ne (by omega), h5, up_ne (by omega), h4, up_ne (by omega), h3, up_ne (by omega), h2, up_ne (by omega), h1, up_ne (by omega)]
  refine ⟨250 + 1 + 1, key 250 (skS X n 0) 0 T7 ld0 hR (by omega) rfl (by decide) hn.1 ?_ ?_ LAk_0 ?_ F⟩
  · rw [h7, up_ne (by omega), h6', up_ne (by omega), h5, up_ne (by omega), h4, up_ne (by omega), h3, up_ne (by omega), h2, up_ne (by omega), h1, up_eq]
  · unfold RfM
    simp only [ld0_0]
    refine ⟨?_, ?_, ?_, ?_, ?_, ?_, fun f f0 f1 => by omega, fun f f0 f1 => by omega, fun f f0 f1 => by omega⟩
    · rw [h7, up_ne (by omega), h6', up_ne (by omega), h5, up_ne (by omega), h4, up_ne (by omega), h3, up_ne (by omega), h2, up_eq]
    · rw [h7, up_ne (by omega), h6', up_ne (by omega), h5, up_ne (by omega), h4, up_ne (by omega), h3, up_eq]
    · rw [h7, up_ne (by omega), h6', up_ne (by omega), h5, up_ne (by omega), h4, up_eq]
    · rw [h7, up_ne (by omega), h6', up_eq]
    · rw [h7, up_eq]
    · rw [h7, up_ne (by omega), h6', up_ne (by omega), h5, up_eq]
  · rw [h7, up_ne (by omega), h6', up_ne (by omega), h5, up_ne (by omega), h4, up_ne (by omega), h3, up_ne (by omega), h2, up_ne (by omega), h1, up_ne (by omega), h6]
/-! a new land: who has what at its beginning -/
def nwS (A : LA) (s : Int) : HA := fun j p f => if j = 0 then (if f < A 1 0 ∧ p < A 0 0 ∧ A 12 f ≠ -1 ∧ bt (A 12 f) p = true then 0 else -1) else if j = 1 then 0 else s
theorem nwS_0 (A : LA) (s p f : Int) : nwS A s 0 p f = if f < A 1 0 ∧ p < A 0 0 ∧ A 12 f ≠ -1 ∧ bt (A 12 f) p = true then 0 else -1 := rfl
theorem nwS_1 (A : LA) (s : Int) : nwS A s 1 0 0 = 0 := rfl
theorem nwS_2 (A : LA) (s : Int) : nwS A s 2 0 0 = s := rfl
theorem nwS_ok {A : LA} {s : Int} (s0 : 0 ≤ s ∧ s ≤ 2147483647) : HAok A (nwS A s) 90099 := by
  refine ⟨by rw [nwS_1]; decide, by rw [nwS_2]; exact s0, fun p f p0 p1 f0 f1 => ?_⟩
  rw [nwS_0, nwS_1]
  by_cases e : f < A 1 0 ∧ p < A 0 0 ∧ A 12 f ≠ -1 ∧ bt (A 12 f) p = true
  · rw [if_pos e]
    exact Or.inr ⟨e.2.1, e.1, by decide, by decide⟩
  · rw [if_neg e]
    exact Or.inl rfl
theorem nwS_C {T : TH} {A : LA} {s : Int} (hA : LAk A) (e0 : T 4 0 0 = 0) (e1 : T 4 1 0 = s) (e2 : ∀ f, 0 ≤ f → f < 8 → T 4 2 f = if f < A 1 0 ∧ A 12 f ≠ -1 then A 12 f else 0) (e4 : ∀ i, 0 ≤ i → i < 56 → T 4 4 i = 0) : HeadC T 4 (nwS A s) := by
  have n0 := hA.1.1
  refine ⟨e0, e1, fun f f0 f1 => ?_, fun p f p0 p1 f0 f1 hk => ?_⟩
  · rw [e2 f f0 f1]
    by_cases e : f < A 1 0 ∧ A 12 f ≠ -1
    · rw [if_pos e]
      have m : ms (A 0 0).toNat (A 12 f) := by
        rcases hA.2 f f0 e.1 with y | y
        · exact absurd y e.2
        · exact y
      refine ⟨ms_up m (by omega), fun p p0 p1 => ?_⟩
      rw [nwS_0]
      by_cases y : bt (A 12 f) p = true
      · have pl : p < A 0 0 := by
          by_cases w : p < A 0 0
          · exact w
          · rw [bt_big m (by omega)] at y
            exact absurd y (by decide)
        rw [y, if_pos ⟨e.1, pl, e.2, rfl⟩]
        decide
      · rw [if_neg (fun z => y z.2.2.2)]
        rw [Bool.not_eq_true] at y
        rw [y]
        decide
    · rw [if_neg e]
      refine ⟨ms_0 7, fun p p0 p1 => ?_⟩
      rw [nwS_0, if_neg (fun z => e ⟨z.1, z.2.2.1⟩), bt_0]
      decide
  · rw [e4 _ (by omega) (by omega)]
    rw [nwS_0] at hk ⊢
    by_cases e : f < A 1 0 ∧ p < A 0 0 ∧ A 12 f ≠ -1 ∧ bt (A 12 f) p = true
    · rw [if_pos e]
    · rw [if_neg e] at hk
      exact absurd rfl hk
theorem sp9_heads {T : TH} {A : LA} {s : Int} (hA : LAk A) (h17 : T 13 17 0 = A 0 0) (h18 : T 13 18 0 = A 1 0) (h19 : ∀ f, 0 ≤ f → f < A 1 0 → T 13 19 (4 * f + 3) = A 12 f) (h26 : ∀ i, 0 ≤ i → i < 56 → T 13 26 i = -1) {Q : Int → TH → Prop} (hq : ∀ T', (∀ p f, 0 ≤ p → p < 7 → 0 ≤ f → f < 8 → T' 13 26 (8 * p + f) = nwS A s 0 p f) → (∀ (o j : Nat) (i : Int), ¬ (o = 13 ∧ j = 26 ∧ 0 ≤ i ∧ i < 56) → T' o j i = T o j i) → Q (A 0 0) T') : ∃ m9 : Nat, h_X9_land_169 Q m9 0 T := by
  have n0 := hA.1.1
  have n1 := hA.1.2.1
  have key : ∀ (d i : Nat) (T1 : TH), i + d = (A 1 0).toNat → (∀ p f, 0 ≤ p → p < 7 → 0 ≤ f → f < 8 → T1 13 26 (8 * p + f) = if f < i then nwS A s 0 p f else -1) → (∀ (o j : Nat) (x : Int), ¬ (o = 13 ∧ j = 26 ∧ 0 ≤ x ∧ x < 56) → T1 o j x = T o j x) → h_X9_land_169 Q (d + 1) i T1 := by
    intro d
    induction d with
    | zero =>
      intro i T1 hi k1 fr
      rw [h_X9_land_169, fr 13 18 0 (by omega), h18, fr 13 17 0 (by omega), h17]
      refine ⟨by unfold zR; omega, by unfold zR; omega, fun _ => ?_, fun h => absurd (by omega) h⟩
      refine hq T1 (fun p f p0 p1 f0 f1 => ?_) fr
      rw [k1 p f p0 p1 f0 f1]
      by_cases e : f < (i : Int)
      · rw [if_pos e]
      · rw [if_neg e, nwS_0, if_neg (fun z => by have := z.1; omega)]
    | succ d ih =>
      intro i T1 hi k1 fr
      rw [h_X9_land_169, fr 13 18 0 (by omega), h18, fr 13 17 0 (by omega), h17]
      refine ⟨by unfold zR; omega, by unfold zR; omega, fun h => absurd h (by omega), fun _ => ?_⟩
      refine ⟨(A 0 0).toNat + 1, ?_⟩
      have w12 := hA.2 i (by omega) (by omega)
      have zx : zR (A 12 i) := by
        rcases w12 with y | y
        · rw [y]
          unfold zR
          omega
        · exact ms_R y (by omega)
      have inner : ∀ (c x : Nat) (T2 : TH), x + c = (A 0 0).toNat → (∀ p f, 0 ≤ p → p < 7 → 0 ≤ f → f < 8 → T2 13 26 (8 * p + f) = if f < i ∨ (f = i ∧ p < x) then nwS A s 0 p f else -1) → (∀ (o j : Nat) (y : Int), ¬ (o = 13 ∧ j = 26 ∧ 0 ≤ y ∧ y < 56) → T2 o j y = T o j y) → h_X9_land_179 Q (h_X9_land_169 Q (d + 1)) (c + 1) i x T2 := by
        intro c
        induction c with
        | zero =>
          intro x T2 hx m1 fr2
          have out : b_X9_land_240 Q (h_X9_land_169 Q (d + 1)) i T2 := by
            unfold b_X9_land_240
            refine ih (i + 1) T2 (by omega) (fun p f p0 p1 f0 f1 => ?_) fr2
            rw [m1 p f p0 p1 f0 f1]
            by_cases e : f < i ∨ (f = i ∧ p < x)
            · rw [if_pos e, if_pos (by omega)]
            · rw [if_neg e]
              by_cases e2 : f < ((i + 1 : Nat) : Int)
              · rw [if_pos e2, nwS_0, if_neg (fun z => by have := z.2.1; omega)]
              · rw [if_neg e2]
          rw [h_X9_land_179, fr2 13 17 0 (by omega), h17]
          exact ⟨by unfold zR; omega, by unfold zR; omega, fun _ => out, fun h => absurd (by omega) h⟩
        | succ c ihc =>
          intro x T2 hx m1 fr2
          have e19 : T2 13 19 (4 * (i : Int) + 3) = A 12 i := by rw [fr2 13 19 _ (by omega), h19 i (by omega) (by omega)]
          rw [h_X9_land_179, fr2 13 17 0 (by omega), h17, e19]
          refine ⟨by unfold zR; omega, by unfold zR; omega, fun h => absurd h (by omega), fun _ => ⟨by omega, by omega, zx, fun y => ?_, fun y => ⟨by omega, by omega, ?_⟩⟩⟩
          · unfold b_X9_land_240
            refine ih (i + 1) T2 (by omega) (fun p f p0 p1 f0 f1 => ?_) fr2
            rw [m1 p f p0 p1 f0 f1]
            by_cases e : f < i ∨ (f = i ∧ p < x)
            · rw [if_pos e, if_pos (by omega)]
            · rw [if_neg e]
              by_cases e2 : f < ((i + 1 : Nat) : Int)
              · have fi : f = i := by omega
                rw [if_pos e2, nwS_0, fi, if_neg (fun z => z.2.2.1 y)]
              · rw [if_neg e2]
          · have m : ms (A 0 0).toNat (A 12 i) := by
              rcases w12 with w | w
              · exact absurd w y
              · exact w
            have put : ∀ v : Int, v = nwS A s 0 x i → b_X9_land_233 Q (h_X9_land_169 Q (d + 1)) (h_X9_land_179 Q (h_X9_land_169 Q (d + 1)) (c + 1)) i x (8 * x + i) v T2 := by
              intro v hv
              unfold b_X9_land_233
              refine ⟨by omega, by omega, ?_⟩
              rintro _ rfl
              refine ihc (x + 1) _ (by omega) (fun p f p0 p1 f0 f1 => ?_) (fun o j w hno => ?_)
              · by_cases e : p = x ∧ f = i
                · rw [e.1, e.2, up_eq, if_pos (by omega), hv]
                · rw [up_ne (by omega), m1 p f p0 p1 f0 f1]
                  by_cases e2 : f < i ∨ (f = i ∧ p < x)
                  · rw [if_pos e2, if_pos (by omega)]
                  · rw [if_neg e2, if_neg (by omega)]
              · rw [up_ne (by omega), fr2 _ _ _ hno]
            refine sp9_has (ms_up m (by omega)) (by omega) (by omega) ?_
            refine ⟨fun w => put _ ?_, fun w => put _ ?_⟩
            · rw [nwS_0, if_neg (fun z => by have := z.2.2.2; rw [w] at this; exact absurd this (by decide))]
            · rw [nwS_0, if_pos ⟨by omega, by omega, y, w⟩]
      refine inner (A 0 0).toNat 0 T1 (by omega) (fun p f p0 p1 f0 f1 => ?_) fr
      rw [k1 p f p0 p1 f0 f1]
      by_cases e : f < (i : Int)
      · rw [if_pos e, if_pos (Or.inl e)]
      · rw [if_neg e, if_neg (by omega)]
  refine ⟨(A 1 0).toNat + 1, key (A 1 0).toNat 0 T (by omega) (fun p f p0 p1 f0 f1 => ?_) (fun _ _ _ _ => rfl)⟩
  rw [h26 _ (by omega) (by omega), if_neg (by omega)]
