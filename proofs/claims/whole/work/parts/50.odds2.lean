/-! odds: the class -/
theorem sp_move {T : TH} {v g q : Int} (v0 : 0 ≤ v) (v1 : v < 433) (q0 : 0 ≤ q) (q1 : q ≤ 100) (hx : 0 ≤ T 11 0 v ∧ T 11 0 v ≤ 1000000000) (hg : T 11 0 v ≠ 0 → 0 ≤ g ∧ g ≤ 432) (zg : zR g) (ng : g ≠ v) {Q : TH → Prop} (hq : ∀ T', (∀ y, T' 11 0 y = T 11 0 y - (if y = v then mvS q (T 11 0 v) else 0) + (if y = g then mvS q (T 11 0 v) else 0)) → (∀ (o j : Nat) (i : Int), ¬ (o = 11 ∧ j = 0) → T' o j i = T o j i) → Q T') : wp_X0_move v g q T Q := by
  unfold wp_X0_move
  have zx : zR (T 11 0 v) := by unfold zR; omega
  refine ⟨v0, v1, zx, fun e => ?_, fun e => ?_⟩
  · refine hq T (fun y => ?_) (fun _ _ _ _ => rfl)
    rw [e, mv_0]
    split <;> split <;> omega
  · have g01 := hg e
    refine ⟨zg, fun z => absurd z (by omega), fun _ => ⟨zg, fun z => absurd z (by omega), fun _ => ⟨v0, v1, zx, by unfold zR; omega, ?_⟩⟩⟩
    intro w hw
    have xq : 0 ≤ T 11 0 v * q := Int.mul_nonneg hx.1 q0
    have xq2 : T 11 0 v * q ≤ 1000000000 * 100 := Int.mul_le_mul hx.2 q1 q0 (by decide)
    have hw : w = mvS q (T 11 0 v) := by
      rw [hw, zdivL_n xq (by omega) (by decide) (by decide)]
      rfl
    refine ⟨v0, v1, v0, v1, ?_⟩
    intro T2 h2
    refine ⟨by omega, by omega, by omega, by omega, ?_⟩
    intro T3 h3
    refine hq T3 (fun y => ?_) (fun o j i hn => ?_)
    · rw [h3]
      by_cases e1 : y = g
      · rw [e1, up_eq, h2, up_ne (by omega), if_neg ng, if_pos rfl, hw]
        omega
      · rw [up_ne (by omega), h2, if_neg e1]
        by_cases e2 : y = v
        · rw [e2, up_eq, if_pos rfl, hw]
          omega
        · rw [up_ne (by omega), if_neg e2]
          omega
    · rw [h3, up_ne (by omega), h2, up_ne (by omega)]
def CdR (T : TH) (R : Int → Int) (a c lo : Int) : Prop := (∀ x, 0 ≤ x → x < 433 → T 11 0 x = R (x + lo)) ∧ T 11 1 0 = lo ∧ T 11 2 0 = a - lo ∧ T 11 3 0 = c - lo
theorem sp_headForgets {T : TH} {R : Int → Int} {a c lo b q : Int} (hO : OdR R a c) (hac : a ≤ c) (q0 : 0 ≤ q) (q1 : q ≤ 100) (b0 : -9 ≤ b) (b1 : b ≤ 9) (bn : b ≠ 0) (l0 : -432 ≤ lo) (l1 : lo ≤ 0) (ha : lo ≤ a + nbS b) (hc : c + pbS b ≤ lo + 432) (hC : CdR T R a c lo) {Q : TH → Prop} (hq : ∀ T', CdR T' (odN q b R) (a + nbS b) (c + pbS b) lo → (∀ (o j : Nat) (i : Int), ¬ o = 11 → T' o j i = T o j i) → Q T') : wp_X0_headForgets b q T Q := by
  have nb := nb_R b
  have le := hO.le (by omega) (by omega)
  have out := fun w hw => hO.out (w := w) hw
  have sup := hO.2.1
  obtain ⟨h1, h2, h3, h4⟩ := hC
  unfold wp_X0_headForgets
  rw [h3, h4]
  refine ⟨by unfold zR; omega, fun hb => ?_, fun hb => ?_⟩
  · rintro _ rfl
    have e1 : nbS b = 0 := by unfold nbS; exact if_neg (by omega)
    have e2 : pbS b = b := by unfold pbS; exact if_neg (by omega)
    rw [e1, e2] at hq
    rw [e2] at hc
    rw [e1] at ha
    have key : ∀ (d : Nat) (v : Int) (T1 : TH), v + 1 = a - lo + d → v ≤ c - lo → (∀ x, 0 ≤ x → x < 433 → T1 11 0 x = R (x + lo) - (if v < x then mvS q (R (x + lo)) else 0) + (if v < x - b then mvS q (R (x + lo - b)) else 0)) → (∀ (o j : Nat) (i : Int), ¬ (o = 11 ∧ j = 0) → T1 o j i = T o j i) → h_X0_headForgets_54 b q Q (d + 1) v T1 := by
      intro d
      induction d with
      | zero =>
        intro v T1 hv hv2 k1 k2
        have t2 : T1 11 2 0 = a - lo := by rw [k2 _ _ _ (by omega)]; exact h3
        have t3 : T1 11 3 0 = c - lo := by rw [k2 _ _ _ (by omega)]; exact h4
        rw [h_X0_headForgets_54, t2, t3]
        refine ⟨by unfold zR; omega, by unfold zR; omega, fun _ => ⟨by unfold zR; omega, ?_⟩, fun z => absurd (by omega) z⟩
        intro T2 g2
        have hz : zmin 432 (c - lo + b) = c - lo + b := by
          unfold zmin
          split <;> omega
        rw [hz] at g2
        refine hq T2 ⟨fun x x0 x1 => ?_, ?_, ?_, ?_⟩ (fun o j i hn => ?_)
        · rw [g2, up_ne (by omega), k1 x x0 x1]
          unfold odN
          by_cases y1 : v < x
          · rw [if_pos y1]
            by_cases y2 : v < x - b
            · rw [if_pos y2]
            · rw [if_neg y2, out (x + lo - b) (by omega), mv_0]
          · rw [if_neg y1, if_neg (by omega), out (x + lo) (by omega), out (x + lo - b) (by omega), mv_0]
        · rw [g2, up_ne (by omega), k2 _ _ _ (by omega)]
          exact h2
        · rw [g2, up_ne (by omega), t2]
          omega
        · rw [g2, up_eq]
          omega
        · rw [g2, up_ne (by omega), k2 _ _ _ (by omega)]
      | succ d ih =>
        intro v T1 hv hv2 k1 k2
        have t2 : T1 11 2 0 = a - lo := by rw [k2 _ _ _ (by omega)]; exact h3
        rw [h_X0_headForgets_54, t2]
        refine ⟨by unfold zR; omega, by unfold zR; omega, fun z => absurd z (by omega), fun _ => ?_⟩
        have tv : T1 11 0 v = R (v + lo) := by
          rw [k1 v (by omega) (by omega), if_neg (by omega), if_neg (by omega)]
          omega
        refine sp_move (by omega) (by omega) q0 q1 (by rw [tv]; exact le _) (fun e => ?_) (by unfold zR; omega) (by omega) (fun T2 m1 m2 => ?_)
        · rw [tv] at e
          have := sup _ e
          omega
        · refine ih (v + -1) T2 (by omega) (by omega) (fun x x0 x1 => ?_) (fun o j i hn => by rw [m2 _ _ _ hn, k2 _ _ _ hn])
          rw [m1 x, k1 x x0 x1, tv]
          by_cases y1 : x = v
          · rw [if_neg (by omega), if_neg (by omega), if_pos y1, if_neg (by omega), if_pos (by omega), if_neg (by omega), y1]
            omega
          · by_cases y2 : x = v + b
            · rw [if_neg y1, if_pos y2, if_pos (by omega), if_neg (by omega), if_pos (by omega), if_pos (by omega), show x + lo - b = v + lo by omega]
              omega
            · rw [if_neg y1, if_neg y2]
              by_cases y3 : v < x
              · rw [if_pos y3, if_pos (show v + -1 < x by omega)]
                by_cases y4 : v < x - b
                · rw [if_pos y4, if_pos (by omega)]
                  omega
                · rw [if_neg y4, if_neg (by omega)]
                  omega
              · rw [if_neg y3, if_neg (by omega), if_neg (by omega), if_neg (by omega)]
                omega
    refine ⟨_, key (c - a + 1).toNat (c - lo) T (by omega) (by omega) (fun x x0 x1 => ?_) (fun _ _ _ _ => rfl)⟩
    rw [h1 x x0 x1]
    by_cases y1 : c - lo < x
    · rw [if_pos y1, out (x + lo) (by omega), mv_0]
      by_cases y2 : c - lo < x - b
      · rw [if_pos y2, out (x + lo - b) (by omega), mv_0]
        omega
      · rw [if_neg y2]
        omega
    · rw [if_neg y1, if_neg (by omega)]
      omega
  · rintro _ rfl
    have e1 : nbS b = b := by unfold nbS; exact if_pos (by omega)
    have e2 : pbS b = 0 := by unfold pbS; exact if_pos (by omega)
    rw [e1, e2] at hq
    rw [e2] at hc
    rw [e1] at ha
    have key : ∀ (d : Nat) (v : Int) (T1 : TH), v + d = c - lo + 1 → a - lo ≤ v → (∀ x, 0 ≤ x → x < 433 → T1 11 0 x = R (x + lo) - (if x < v then mvS q (R (x + lo)) else 0) + (if x - b < v then mvS q (R (x + lo - b)) else 0)) → (∀ (o j : Nat) (i : Int), ¬ (o = 11 ∧ j = 0) → T1 o j i = T o j i) → h_X0_headForgets_9 b q Q (d + 1) v T1 := by
      intro d
      induction d with
      | zero =>
        intro v T1 hv hv2 k1 k2
        have t2 : T1 11 2 0 = a - lo := by rw [k2 _ _ _ (by omega)]; exact h3
        have t3 : T1 11 3 0 = c - lo := by rw [k2 _ _ _ (by omega)]; exact h4
        rw [h_X0_headForgets_9, t2, t3]
        refine ⟨by unfold zR; omega, by unfold zR; omega, fun _ => ⟨by unfold zR; omega, ?_⟩, fun z => absurd (by omega) z⟩
        intro T2 g2
        have hz : zmax 0 (a - lo + b) = a - lo + b := by
          unfold zmax
          split <;> omega
        rw [hz] at g2
        refine hq T2 ⟨fun x x0 x1 => ?_, ?_, ?_, ?_⟩ (fun o j i hn => ?_)
        · rw [g2, up_ne (by omega), k1 x x0 x1]
          unfold odN
          by_cases y1 : x < v
          · rw [if_pos y1]
            by_cases y2 : x - b < v
            · rw [if_pos y2]
            · rw [if_neg y2, out (x + lo - b) (by omega), mv_0]
          · rw [if_neg y1, if_neg (by omega), out (x + lo) (by omega), out (x + lo - b) (by omega), mv_0]
        · rw [g2, up_ne (by omega), k2 _ _ _ (by omega)]
          exact h2
        · rw [g2, up_eq]
          omega
        · rw [g2, up_ne (by omega), t3]
          omega
        · rw [g2, up_ne (by omega), k2 _ _ _ (by omega)]
      | succ d ih =>
        intro v T1 hv hv2 k1 k2
        have t3 : T1 11 3 0 = c - lo := by rw [k2 _ _ _ (by omega)]; exact h4
        rw [h_X0_headForgets_9, t3]
        refine ⟨by unfold zR; omega, by unfold zR; omega, fun z => absurd z (by omega), fun _ => ?_⟩
        have tv : T1 11 0 v = R (v + lo) := by
          rw [k1 v (by omega) (by omega), if_neg (by omega), if_neg (by omega)]
          omega
        refine sp_move (by omega) (by omega) q0 q1 (by rw [tv]; exact le _) (fun e => by omega) (by unfold zR; omega) (by omega) (fun T2 m1 m2 => ?_)
        refine ih (v + 1) T2 (by omega) (by omega) (fun x x0 x1 => ?_) (fun o j i hn => by rw [m2 _ _ _ hn, k2 _ _ _ hn])
        rw [m1 x, k1 x x0 x1, tv]
        by_cases y1 : x = v
        · rw [if_neg (by omega), if_neg (by omega), if_pos y1, if_neg (by omega), if_pos (by omega), if_neg (by omega), y1]
          omega
        · by_cases y2 : x = v + b
          · rw [if_neg y1, if_pos y2, if_pos (by omega), if_neg (by omega), if_pos (by omega), if_pos (by omega), show x + lo - b = v + lo by omega]
            omega
          · rw [if_neg y1, if_neg y2]
            by_cases y3 : x < v
            · rw [if_pos y3, if_pos (show x < v + 1 by omega)]
              by_cases y4 : x - b < v
              · rw [if_pos y4, if_pos (by omega)]
                omega
              · rw [if_neg y4, if_neg (by omega)]
                omega
            · rw [if_neg y3, if_neg (by omega), if_neg (by omega), if_neg (by omega)]
              omega
    refine ⟨_, key (c - a + 1).toNat (a - lo) T (by omega) (by omega) (fun x x0 x1 => ?_) (fun _ _ _ _ => rfl)⟩
    rw [h1 x x0 x1]
    by_cases y1 : x < a - lo
    · rw [if_pos y1, out (x + lo) (by omega), mv_0]
      by_cases y2 : x - b < a - lo
      · rw [if_pos y2, out (x + lo - b) (by omega), mv_0]
        omega
      · rw [if_neg y2]
        omega
    · rw [if_neg y1, if_neg (by omega)]
      omega
theorem ao_k (A : LA) (S : HA) (p : Int) (i : Nat) (k : Nat) : aoS A S p i ((k + 1 : Nat) : Int) = aoS A S p i k + nbS (-plS A i) ∧ coS A S p i ((k + 1 : Nat) : Int) = coS A S p i k + pbS (-plS A i) := by
  unfold aoS coS
  rw [show ((k + 1 : Nat) : Int) = (k : Int) + 1 from rfl, Int.add_mul, Int.add_mul, Int.one_mul, Int.one_mul]
  omega
theorem sp_cSpread {A : LA} {T : TH} {S : HA} {o : Nat} {M p q : Int} (ho : o = 2 ∨ o = 3) (hA : LAok A) (hC : LandC T o A) (hS : HAok A S M) (hH : HeadC T 4 S) (p0 : 0 ≤ p) (p1 : p < A 0 0) (q0 : 0 ≤ q) (q1 : q ≤ 100) {Q : TH → Prop} (hq : ∀ T', CdR T' (odP A S p q (A 1 0).toNat) (wtS A S p - trS A S p (A 1 0).toNat) (wtS A S p + lsS A S p (A 1 0).toNat) (-lsS A S p (A 1 0).toNat) → (∀ (o j : Nat) (i : Int), ¬ o = 11 → T' o j i = T o j i) → Q T') : wp_X0_spread o 4 p q T Q := by
  have n0 := hA.1
  have n1 := hA.2.1
  have ws := wt_split A S p
  have lr := lo_R hA S p
  obtain ⟨c1, c2⟩ := hC.2.2.2.2.2.2.1
  obtain ⟨g1, g2⟩ := hC.2.2.2.2.2.2.2.2.1 p p0 p1
  obtain ⟨t1, t2⟩ := zandn_b (ms_up g1 (by decide)) (ms_up c1 (m := 31) (by decide))
  obtain ⟨u1, u2⟩ := zand_b (ms_up g1 (by decide)) (ms_up c1 (m := 31) (by decide))
  have gl : grS A S (zand (T o 11 p) (T o 6 0)) = lsS A S p (A 1 0).toNat := by
    unfold grS lsS
    refine sZ_congr (fun f f0 f1 => ?_)
    show (if bt (zand (T o 11 p) (T o 6 0)) f = true then A 7 f * hdS A S f else 0) = (if A 8 f = 1 then vlS A S p f else 0)
    rw [u2, g2 f f0 (by omega), c2 f f0 (by omega)]
    have hf : f < A 1 0 := by omega
    unfold vlS
    by_cases q1 : A 6 f = p <;> by_cases q2 : A 8 f = 1 <;> simp [q1, q2, hf]
  have gt : grS A S (zand (T o 11 p) (zxor (T o 6 0) (-1))) = trS A S p (A 1 0).toNat := by
    unfold grS trS
    refine sZ_congr (fun f f0 f1 => ?_)
    show (if bt (zand (T o 11 p) (zxor (T o 6 0) (-1))) f = true then A 7 f * hdS A S f else 0) = (if A 8 f = 1 then 0 else vlS A S p f)
    rw [t2, g2 f f0 (by omega), c2 f f0 (by omega)]
    have hf : f < A 1 0 := by omega
    unfold vlS
    by_cases q1 : A 6 f = p <;> by_cases q2 : A 8 f = 1 <;> simp [q1, q2, hf]
  unfold wp_X0_spread
  refine ⟨p0, by omega, ?_⟩
  rintro _ rfl
  refine sp_gramsOf hA hC hS hH u1 ?_
  intro T4 h4
  have C4 : LandC T4 o A := hC.off (fun j x => by rw [h4, up_ne (by omega)])
  have H4 : HeadC T4 4 S := hH.eq (by rw [h4, up_ne (by omega)]) (by rw [h4, up_ne (by omega)]) (fun i _ _ => by rw [h4, up_ne (by omega)]) (fun i _ _ => by rw [h4, up_ne (by omega)])
  rw [show T4 o 6 0 = T o 6 0 by rw [h4, up_ne (by omega)]]
  refine sp_gramsOf hA C4 hS H4 t1 ?_
  rw [gl] at h4
  rw [gt]
  have hz : zmin 432 (trS A S p (A 1 0).toNat) = trS A S p (A 1 0).toNat := by
    unfold zmin
    split <;> omega
  rw [hz]
  refine ⟨by unfold zR; omega, ?_⟩
  intro T7 h7 T8 h8
  refine sp_fill (by decide) (fun T9 f1 f2 => ?_)
  have e9 : T9 11 2 0 = trS A S p (A 1 0).toNat := by rw [f2 _ _ _ (by omega), h8, up_ne (by omega), h7, up_eq]
  rw [e9]
  refine ⟨by omega, by omega, ?_⟩
  intro T10 h10
  have fr10 : ∀ (o j : Nat) (i : Int), ¬ o = 11 → T10 o j i = T o j i := fun o j i hn => by
    rw [h10, up_ne (by omega), f2 _ _ _ (by omega), h8, up_ne (by omega), h7, up_ne (by omega), h4, up_ne (by omega)]
  have facts : ∀ (d i : Nat) (T1 : TH), i + d = (A 1 0).toNat → CdR T1 (odP A S p q i) (wtS A S p - trS A S p i) (wtS A S p + lsS A S p i) (-lsS A S p (A 1 0).toNat) → (∀ (o j : Nat) (i : Int), ¬ o = 11 → T1 o j i = T o j i) → h_X0_spread_79 o 4 p q Q (d + 1) i T1 := by
    intro d
    induction d with
    | zero =>
      intro i T1 hi hc fr
      have C1 : LandC T1 o A := hC.off (fun j x => fr _ _ _ (by omega))
      rw [h_X0_spread_79, C1.2.1]
      refine ⟨by unfold zR; omega, by unfold zR; omega, fun _ => ?_, fun z => absurd (by omega) z⟩
      rw [show i = (A 1 0).toNat by omega] at hc
      exact hq T1 hc fr
    | succ d ih =>
      intro i T1 hi hc fr
      have C1 : LandC T1 o A := hC.off (fun j x => fr _ _ _ (by omega))
      have H1 : HeadC T1 4 S := hH.eq (fr _ _ _ (by omega)) (fr _ _ _ (by omega)) (fun _ _ _ => fr _ _ _ (by omega)) (fun _ _ _ => fr _ _ _ (by omega))
      have a6 := (hA.2.2.2.2.2.2.1 i (by omega) (by omega)).1
      have e8 := (C1.2.2.2.2.2.2.2.1 i (by omega) (by omega)).1
      have cn := cn_R hA S p (f := i) (by omega) (by omega)
      obtain ⟨l1, l2, l3, l4⟩ := pl_9 hA (f := i) (by omega) (by omega)
      have pr : -9 ≤ -plS A i ∧ -plS A i ≤ 9 ∧ -plS A i ≠ 0 := by
        by_cases e : A 8 i = 1
        · rw [l1 e]
          omega
        · rw [l2 e]
          omega
      have heads : ∀ (c k : Nat) (T2 : TH), k + c = (cnS A S p i).toNat → CdR T2 (odI q (-plS A i) (odP A S p q i) k) (aoS A S p i k) (coS A S p i k) (-lsS A S p (A 1 0).toNat) → (∀ (o j : Nat) (i : Int), ¬ o = 11 → T2 o j i = T o j i) → h_X0_spread_115 o 4 p q Q (h_X0_spread_79 o 4 p q Q (d + 1)) (c + 1) i (cnS A S p i) k T2 := by
        intro c
        induction c with
        | zero =>
          intro k T2 hk hc2 fr2
          rw [h_X0_spread_115]
          refine ⟨by unfold zR; omega, by unfold zR; omega, fun _ => ?_, fun z => absurd (by omega) z⟩
          have ek : (k : Int) = cnS A S p i := by omega
          rw [ek, ← (ao_s hA S p (i := i) (by omega)).1, ← (ao_s hA S p (i := i) (by omega)).2] at hc2
          unfold aoS coS at hc2
          rw [Int.zero_mul, Int.zero_mul, Int.add_zero, Int.add_zero, show k = (cnS A S p i).toNat by omega] at hc2
          exact ih (i + 1) T2 (by omega) hc2 fr2
        | succ c ihc =>
          intro k T2 hk hc2 fr2
          have C2 : LandC T2 o A := hC.off (fun j x => fr2 _ _ _ (by omega))
          have ok := (odP_ok hA S (p := p) q0 q1 i (by omega)).2 (by omega) k (by omega)
          have r1 := ao_R hA S p (i := i) (by omega) (k := k) (by omega) (by omega)
          have r2 := ao_R hA S p (i := i) (by omega) (k := ((k + 1 : Nat) : Int)) (by omega) (by omega)
          obtain ⟨s1, s2⟩ := ao_k A S p i k
          rw [s1, s2] at r2
          rw [h_X0_spread_115]
          refine ⟨by unfold zR; omega, by unfold zR; omega, fun z => absurd z (by omega), fun _ => ?_⟩
          refine sp_pull hA C2 (by omega) (by omega) ?_
          refine sp_headForgets ok r1.2.2 q0 q1 pr.1 pr.2.1 pr.2.2 (by omega) (by omega) (by omega) (by omega) hc2 (fun T3 hc3 fr3 => ?_)
          refine ihc (k + 1) T3 (by omega) ?_ (fun o j x hn => by rw [fr3 _ _ _ hn, fr2 _ _ _ hn])
          rw [s1, s2]
          exact hc3
      have start : CdR T1 (odI q (-plS A i) (odP A S p q i) 0) (aoS A S p i ((0 : Nat) : Int)) (coS A S p i ((0 : Nat) : Int)) (-lsS A S p (A 1 0).toNat) := by
        unfold aoS coS
        rw [show ((0 : Nat) : Int) = 0 from rfl, Int.zero_mul, Int.zero_mul, Int.add_zero, Int.add_zero]
        exact hc
      have go : ∀ c : Int, c = cnS A S p i → b_X0_spread_110 o 4 p q Q (h_X0_spread_79 o 4 p q Q (d + 1)) i c T1 := by
        intro c hcc
        subst hcc
        unfold b_X0_spread_110
        exact ⟨_, heads (cnS A S p i).toNat 0 T1 (by omega) start fr⟩
      rw [h_X0_spread_79, C1.2.1, e8]
      refine ⟨by unfold zR; omega, by unfold zR; omega, fun z => absurd z (by omega), fun _ => ⟨by omega, by omega, by unfold zR; omega, by unfold zR; omega, fun e => go _ ?_, fun e => ?_⟩⟩
      · unfold cnS
        rw [if_neg e]
      · refine sp_headsOf hA C1 hS H1 (by omega) (by omega) (go _ ?_)
        unfold cnS
        rw [if_pos e]
  refine ⟨_, facts (A 1 0).toNat 0 T10 (by omega) ⟨fun x x0 x1 => ?_, ?_, ?_, ?_⟩ fr10⟩
  · show T10 11 0 x = if x + -lsS A S p (A 1 0).toNat = wtS A S p then 1000000000 else 0
    rw [h10]
    by_cases e : x = trS A S p (A 1 0).toNat
    · rw [e, up_eq, if_pos (by omega)]
    · rw [up_ne (by omega), if_neg (by omega)]
      exact f1 x x0 x1
  · rw [h10, up_ne (by omega), f2 _ _ _ (by omega), h8, up_ne (by omega), h7, up_ne (by omega), h4, up_eq]
  · rw [h10, up_ne (by omega), e9]
    show _ = wtS A S p - 0 - _
    omega
  · rw [h10, up_ne (by omega), f2 _ _ _ (by omega), h8, up_eq, h7, up_eq]
    show _ = wtS A S p + 0 - _
    omega
theorem sp_upTo {T : TH} {R : Int → Int} {a c lo br : Int} (hO : OdR R a c) (hac : a ≤ c) (l0 : -432 ≤ lo) (l1 : lo ≤ 0) (ha : lo ≤ a) (hc : c ≤ lo + 432) (hC : CdR T R a c lo) (zb : zR br) {Q : Int → TH → Prop} (hq : Q (odA R br) T) : wp_X0_upTo br T Q := by
  have out := fun w hw => hO.out (w := w) hw
  obtain ⟨h1, h2, h3, h4⟩ := hC
  unfold wp_X0_upTo
  rw [h3]
  rintro _ rfl
  have fin : ∀ v u : Int, a - lo ≤ v → v ≤ c - lo + 1 → (c - lo < v ∨ br < lo + v) → u = sZ (fun k => if k - 600 ≤ br then R (k - 600) else 0) (600 + lo + v).toNat → Q u T := by
    intro v u hv hv2 he hu
    have e : odA R br = u := by
      rw [hu]
      unfold odA
      refine sZ_more (by omega) (fun i i0 i1 => ?_)
      show (if i - 600 ≤ br then R (i - 600) else 0) = 0
      by_cases y : i - 600 ≤ br
      · rw [if_pos y]
        exact out _ (by omega)
      · rw [if_neg y]
    rw [← e]
    exact hq
  have key : ∀ (d : Nat) (v u : Int), v + d = c - lo + 1 → a - lo ≤ v → u = sZ (fun k => if k - 600 ≤ br then R (k - 600) else 0) (600 + lo + v).toNat → h_X0_upTo_7 br Q (d + 1) u v T := by
    intro d
    induction d with
    | zero =>
      intro v u hv hv2 hu
      rw [h_X0_upTo_7, h4]
      exact ⟨by unfold zR; omega, by unfold zR; omega, fun z => fin v u hv2 (by omega) (Or.inl z) hu, fun z => absurd (by omega) z⟩
    | succ d ih =>
      intro v u hv hv2 hu
      rw [h_X0_upTo_7, h4, h2]
      refine ⟨by unfold zR; omega, by unfold zR; omega, fun z => absurd z (by omega), fun _ => ⟨by unfold zR; omega, zb, fun z => fin v u hv2 (by omega) (Or.inr z) hu, fun z => ⟨by omega, by omega, ?_⟩⟩⟩
      rintro _ rfl
      refine ih (v + 1) _ (by omega) (by omega) ?_
      rw [hu, show (600 + lo + (v + 1)).toNat = (600 + lo + v).toNat + 1 by omega, sZ, show (((600 + lo + v).toNat : Nat) : Int) = 600 + lo + v by omega, if_pos (by omega), h1 v (by omega) (by omega), show 600 + lo + v - 600 = v + lo by omega]
  refine ⟨_, key (c - a + 1).toNat (a - lo) 0 (by omega) (by omega) ?_⟩
  rw [sZ_zero]
  intro i i0 i1
  show (if i - 600 ≤ br then R (i - 600) else 0) = 0
  rw [out _ (by omega)]
  split <;> rfl
