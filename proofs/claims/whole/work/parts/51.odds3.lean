/-! odds: the reference -/
def RdR (T : TH) (R : Int → Int) : Prop := ∀ k, 0 ≤ k → k < 1200 → T 13 35 k = R (k - 600)
theorem od_256 {T : TH} {p br q i b h : Int} {Q : Int → TH → Prop} {K81 : Int → TH → Prop} {K : Int → Int → Int → TH → Prop} (hq : ∀ T', (∀ k, 0 ≤ k → k < 1200 → T' 13 35 k = T 13 36 k) → (∀ (o j : Nat) (i : Int), ¬ (o = 13 ∧ j = 35) → T' o j i = T o j i) → K i b (h + -1) T') : ∃ n, h_X9_odds_256 p br q Q K81 K n i b h 0 T := by
  have key : ∀ (d x : Nat) (T1 : TH), x + d = 1200 → (∀ k : Int, 0 ≤ k → k < (x : Int) → T1 13 35 k = T 13 36 k) → (∀ (o j : Nat) (x : Int), ¬ (o = 13 ∧ j = 35) → T1 o j x = T o j x) → h_X9_odds_256 p br q Q K81 K (d + 1) i b h x T1 := by
    intro d
    induction d with
    | zero =>
      intro x T1 hx k1 k2
      rw [h_X9_odds_256]
      exact ⟨by unfold zR; omega, fun _ => hq T1 (fun k k0 kk => k1 k k0 (by omega)) k2, fun h => absurd (by omega) h⟩
    | succ d ih =>
      intro x T1 hx k1 k2
      rw [h_X9_odds_256]
      refine ⟨by unfold zR; omega, fun h => absurd h (by omega), fun _ => ⟨by omega, by omega, by omega, by omega, ?_⟩⟩
      rintro _ rfl
      refine ih (x + 1) _ (by omega) (fun k k0 kk => ?_) (fun o' j' y hn => ?_)
      · by_cases e : k = x
        · subst e
          rw [up_eq]
          exact k2 13 36 _ (by omega)
        · rw [up_ne (by omega)]
          exact k1 k k0 (by omega)
      · rw [up_ne (by omega)]
        exact k2 o' j' y hn
  exact ⟨_, key 1200 0 T (by omega) (fun k k0 k1 => by omega) (fun _ _ _ _ => rfl)⟩
theorem od_176 {T : TH} {R : Int → Int} {a c p br q i b h : Int} (hO : OdR R a c) (ha : -432 ≤ a) (hc : c ≤ 432) (q0 : 0 ≤ q) (q1 : q ≤ 100) (b0 : -9 ≤ b) (b1 : b ≤ 9) (bn : b ≠ 0) (hR : RdR T R) (hz : ∀ k, 0 ≤ k → k < 1200 → T 13 36 k = 0) {Q : Int → TH → Prop} {K81 : Int → TH → Prop} {K : Int → Int → Int → TH → Prop} (hq : ∀ T', RdR T' (odN q b R) → (∀ (o j : Nat) (x : Int), ¬ (o = 13 ∧ (j = 35 ∨ j = 36)) → T' o j x = T o j x) → K i b (h + -1) T') : ∃ n, h_X9_odds_176 p br q Q K81 K n i b h 0 T := by
  have le := hO.le ha hc
  have out := fun w hw => hO.out (w := w) hw
  have sup := hO.2.1
  have key : ∀ (d j : Nat) (T1 : TH), j + d = 1200 → (∀ x, 0 ≤ x → x < 1200 → T1 13 36 x = (if x < j then R (x - 600) - mvS q (R (x - 600)) else 0) + (if x - b < j then mvS q (R (x - 600 - b)) else 0)) → (∀ (o j : Nat) (x : Int), ¬ (o = 13 ∧ j = 36) → T1 o j x = T o j x) → h_X9_odds_176 p br q Q K81 K (d + 1) i b h j T1 := by
    intro d
    induction d with
    | zero =>
      intro j T1 hj k1 k2
      rw [h_X9_odds_176]
      refine ⟨by unfold zR; omega, fun _ => ?_, fun z => absurd (by omega) z⟩
      refine od_256 (fun T2 t1 t2 => hq T2 (fun k k0 kk => ?_) (fun o j x hn => by rw [t2 _ _ _ (by omega), k2 _ _ _ (by omega)]))
      rw [t1 k k0 kk, k1 k k0 kk, if_pos (by omega)]
      unfold odN
      by_cases e : k - b < j
      · rw [if_pos e]
      · rw [if_neg e, out (k - 600 - b) (by omega), mv_0]
    | succ d ih =>
      intro j T1 hj k1 k2
      have r := le (j - 600)
      rw [h_X9_odds_176, k2 13 35 _ (by omega), hR _ (by omega) (by omega)]
      refine ⟨by unfold zR; omega, fun z => absurd z (by omega), fun _ => ⟨by omega, by omega, by unfold zRL; omega, by unfold zRL; omega, zlc_R _ _, fun z => ?_, fun z => ?_⟩⟩
      · rw [zlc_le] at z
        have z : R ((j : Int) - 600) = 0 := by omega
        unfold b_X9_odds_247
        refine ih (j + 1) T1 (by omega) (fun x x0 xx => ?_) k2
        rw [k1 x x0 xx]
        by_cases y1 : x = j
        · rw [if_neg (show ¬ x < (j : Int) by omega), if_pos (show x < ((j + 1 : Nat) : Int) by omega), y1, z, mv_0]
          by_cases y2 : (j : Int) - b < j
          · rw [if_pos y2, if_pos (by omega)]
            rfl
          · rw [if_neg y2, if_neg (by omega)]
            rfl
        · by_cases y2 : x - b = j
          · rw [show x - 600 - b = j - 600 by omega, z, mv_0]
            by_cases y3 : x < j
            · rw [if_pos y3, if_pos (show x < ((j + 1 : Nat) : Int) by omega)]
              split <;> split <;> omega
            · rw [if_neg y3, if_neg (show ¬ x < ((j + 1 : Nat) : Int) by omega)]
              split <;> split <;> omega
          · by_cases y3 : x < j
            · rw [if_pos y3, if_pos (show x < ((j + 1 : Nat) : Int) by omega)]
              by_cases y4 : x - b < j
              · rw [if_pos y4, if_pos (by omega)]
              · rw [if_neg y4, if_neg (by omega)]
            · rw [if_neg y3, if_neg (show ¬ x < ((j + 1 : Nat) : Int) by omega)]
              by_cases y4 : x - b < j
              · rw [if_pos y4, if_pos (by omega)]
              · rw [if_neg y4, if_neg (by omega)]
      · rw [zlc_le] at z
        have s := sup (j - 600) (by omega)
        refine ⟨by omega, by omega, by unfold zR; omega, ?_⟩
        intro w hw
        have xq : 0 ≤ R ((j : Int) - 600) * q := Int.mul_nonneg r.1 q0
        have xq2 : R ((j : Int) - 600) * q ≤ 1000000000 * 100 := Int.mul_le_mul r.2 q1 q0 (by decide)
        have hw : w = mvS q (R ((j : Int) - 600)) := by
          rw [hw, zdivL_n xq (by omega) (by decide) (by decide)]
          rfl
        refine ⟨by omega, by omega, by omega, by omega, by omega, by omega, ?_⟩
        intro T2 h2
        refine ⟨by omega, by omega, by omega, by omega, ?_⟩
        intro T3 h3
        unfold b_X9_odds_247
        refine ih (j + 1) T3 (by omega) (fun x x0 xx => ?_) (fun o' j' x hn => by rw [h3, up_ne (by omega), h2, up_ne (by omega)]; exact k2 o' j' x hn)
        rw [h3]
        by_cases y1 : x = j + b
        · rw [y1, up_eq, h2, up_ne (by omega), k1 _ (by omega) (by omega), if_neg (show ¬ (j : Int) + b - b < j by omega), if_pos (show (j : Int) + b - b < ((j + 1 : Nat) : Int) by omega), show (j : Int) + b - 600 - b = j - 600 by omega, hw]
          by_cases y2 : (j : Int) + b < j
          · rw [if_pos y2, if_pos (by omega)]
            omega
          · rw [if_neg y2, if_neg (by omega)]
            omega
        · rw [up_ne (by omega), h2]
          by_cases y2 : x = j
          · rw [y2, up_eq, k1 _ (by omega) (by omega), if_neg (show ¬ (j : Int) < j by omega), if_pos (show (j : Int) < ((j + 1 : Nat) : Int) by omega), hw]
            by_cases y3 : (j : Int) - b < j
            · rw [if_pos y3, if_pos (by omega)]
              omega
            · rw [if_neg y3, if_neg (by omega)]
              omega
          · rw [up_ne (by omega), k1 x x0 xx]
            by_cases y3 : x < j
            · rw [if_pos y3, if_pos (show x < ((j + 1 : Nat) : Int) by omega)]
              by_cases y4 : x - b < j
              · rw [if_pos y4, if_pos (by omega)]
              · rw [if_neg y4, if_neg (by omega)]
            · rw [if_neg y3, if_neg (show ¬ x < ((j + 1 : Nat) : Int) by omega)]
              by_cases y4 : x - b < j
              · rw [if_pos y4, if_pos (by omega)]
              · rw [if_neg y4, if_neg (by omega)]
  refine ⟨_, key 1200 0 T (by omega) (fun x x0 xx => ?_) (fun _ _ _ _ => rfl)⟩
  rw [hz x x0 xx, if_neg (by omega)]
  by_cases e : x - b < ((0 : Nat) : Int)
  · rw [if_pos e, out (x - 600 - b) (by omega), mv_0]
    rfl
  · rw [if_neg e]
    rfl
theorem od_151 {T : TH} {p br q i b h : Int} {Q : Int → TH → Prop} {K81 : Int → TH → Prop} {K : Int → Int → Int → TH → Prop} (hq : ∀ T', (∀ k, 0 ≤ k → k < 1200 → T' 13 36 k = 0) → (∀ (o j : Nat) (i : Int), ¬ (o = 13 ∧ j = 36) → T' o j i = T o j i) → ∃ n, h_X9_odds_176 p br q Q K81 K n i b h 0 T') : ∃ n, h_X9_odds_151 p br q Q K81 K n i b h 0 T := by
  have key : ∀ (d x : Nat) (T1 : TH), x + d = 1200 → (∀ k : Int, 0 ≤ k → k < (x : Int) → T1 13 36 k = 0) → (∀ (o j : Nat) (x : Int), ¬ (o = 13 ∧ j = 36) → T1 o j x = T o j x) → h_X9_odds_151 p br q Q K81 K (d + 1) i b h x T1 := by
    intro d
    induction d with
    | zero =>
      intro x T1 hx k1 k2
      rw [h_X9_odds_151]
      exact ⟨by unfold zR; omega, fun _ => hq T1 (fun k k0 kk => k1 k k0 (by omega)) k2, fun h => absurd (by omega) h⟩
    | succ d ih =>
      intro x T1 hx k1 k2
      rw [h_X9_odds_151]
      refine ⟨by unfold zR; omega, fun h => absurd h (by omega), fun _ => ⟨by omega, by omega, ?_⟩⟩
      rintro _ rfl
      refine ih (x + 1) _ (by omega) (fun k k0 kk => ?_) (fun o' j' y hn => ?_)
      · by_cases e : k = x
        · subst e
          rw [up_eq]
        · rw [up_ne (by omega)]
          exact k1 k k0 (by omega)
      · rw [up_ne (by omega)]
        exact k2 o' j' y hn
  exact ⟨_, key 1200 0 T (by omega) (fun k k0 k1 => by omega) (fun _ _ _ _ => rfl)⟩
theorem od_302 {A : LA} {T : TH} {R : Int → Int} {p b q : Int} (hA : LAok A) (hL : LandM T A) (hR : RdR T R) (b0 : 0 ≤ b) (b1 : b < A 3 0) {Q : Int → TH → Prop} (hq : Q (odA R (A 11 b)) T) : ∃ n, h_X9_odds_302 p b q Q n 0 0 T := by
  have n3 := hA.2.2.2.1
  have nb := hA.2.2.2.2.2.2.2.2 b b0 b1
  have e24 := hL.2.2.2.2.2.2.2.2 b b0 b1
  have key : ∀ (d x : Nat) (u : Int), x + d = 1200 → u = sZ (fun k => if k - 600 ≤ A 11 b then R (k - 600) else 0) x → h_X9_odds_302 p b q Q (d + 1) u x T := by
    intro d
    induction d with
    | zero =>
      intro x u hx hu
      rw [h_X9_odds_302]
      refine ⟨by unfold zR; omega, fun _ => ?_, fun h => absurd (by omega) h⟩
      rw [hu, show x = 1200 by omega]
      exact hq
    | succ d ih =>
      intro x u hx hu
      rw [h_X9_odds_302, e24]
      refine ⟨by unfold zR; omega, fun h => absurd h (by omega), fun _ => ⟨b0, by omega, by unfold zR; omega, by unfold zR; omega, fun z => ?_, fun z => ⟨by omega, by omega, ?_⟩⟩⟩
      · unfold b_X9_odds_338
        rintro _ rfl
        refine ih (x + 1) _ (by omega) ?_
        rw [sZ, if_neg (by omega), hu]
      · unfold b_X9_odds_338
        rintro _ rfl
        refine ih (x + 1) _ (by omega) ?_
        rw [sZ, if_pos (by omega), hu, hR _ (by omega) (by omega)]
  exact ⟨_, key 1200 0 0 (by omega) rfl⟩
theorem sp9_odds {A : LA} {T : TH} {S : HA} {M p b q : Int} (hA : LAok A) (hL : LandM T A) (hM : M ≤ 1000000) (hS : HAok A S M) (hH : HeadM T 26 0 S) (hp : zR p) (b0 : 0 ≤ b) (b1 : b < A 3 0) (q0 : 0 ≤ q) (q1 : q ≤ 100) {Q : Int → TH → Prop} (hq : ∀ T', (∀ (o j : Nat) (x : Int), ¬ (o = 13 ∧ (j = 35 ∨ j = 36)) → T' o j x = T o j x) → Q (odA (odP A S p q (A 1 0).toNat) (A 11 b)) T') : ∃ n, h_X9_odds_35 p b q Q n 0 T := by
  have n0 := hA.1
  have n1 := hA.2.1
  have ws := wt_split A S p
  have lr := lo_R hA S p
  have facts : ∀ (d i : Nat) (T1 : TH), i + d = (A 1 0).toNat → RdR T1 (odP A S p q i) → (∀ (o j : Nat) (x : Int), ¬ (o = 13 ∧ (j = 35 ∨ j = 36)) → T1 o j x = T o j x) → h_X9_odds_81 p b q Q (d + 1) i T1 := by
    intro d
    induction d with
    | zero =>
      intro i T1 hi hR fr
      have L1 : LandM T1 A := hL.off (fun j x hj => fr _ _ _ (by omega))
      rw [h_X9_odds_81, L1.2.1]
      refine ⟨by unfold zR; omega, by unfold zR; omega, fun _ => ?_, fun z => absurd (by omega) z⟩
      rw [show i = (A 1 0).toNat by omega] at hR
      exact od_302 hA L1 hR b0 b1 (hq T1 fr)
    | succ d ih =>
      intro i T1 hi hR fr
      have L1 : LandM T1 A := hL.off (fun j x hj => fr _ _ _ (by omega))
      have H1 : HeadM T1 26 0 S := hH.eq (fun _ _ _ => fr _ _ _ (by omega))
      have a6 := (hA.2.2.2.2.2.2.1 i (by omega) (by omega)).1
      have cn := cn_R hA S p (f := i) (by omega) (by omega)
      obtain ⟨l1, l2, l3, l4⟩ := pl_9 hA (f := i) (by omega) (by omega)
      have pr : -9 ≤ -plS A i ∧ -plS A i ≤ 9 ∧ -plS A i ≠ 0 := by
        by_cases e : A 8 i = 1
        · rw [l1 e]
          omega
        · rw [l2 e]
          omega
      have heads : ∀ (c k : Nat) (T2 : TH), k + c = (cnS A S p i).toNat → RdR T2 (odI q (-plS A i) (odP A S p q i) k) → (∀ (o j : Nat) (x : Int), ¬ (o = 13 ∧ (j = 35 ∨ j = 36)) → T2 o j x = T o j x) → h_X9_odds_143 p b q Q (h_X9_odds_81 p b q Q (d + 1)) (c + 1) i (-plS A i) c T2 := by
        intro c
        induction c with
        | zero =>
          intro k T2 hk hR2 fr2
          rw [h_X9_odds_143]
          refine ⟨by unfold zR; omega, fun _ => ?_, fun z => absurd (by omega) z⟩
          rw [show k = (cnS A S p i).toNat by omega] at hR2
          exact ih (i + 1) T2 (by omega) hR2 fr2
        | succ c ihc =>
          intro k T2 hk hR2 fr2
          have ok := (odP_ok hA S (p := p) q0 q1 i (by omega)).2 (by omega) k (by omega)
          have r1 := ao_R hA S p (i := i) (by omega) (k := k) (by omega) (by omega)
          rw [h_X9_odds_143]
          refine ⟨by unfold zR; omega, fun z => absurd z (by omega), fun _ => ?_⟩
          refine od_151 (fun T3 z3 fr3 => ?_)
          refine od_176 ok (by omega) (by omega) q0 q1 pr.1 pr.2.1 pr.2.2 (fun x x0 x1 => by rw [fr3 _ _ _ (by omega)]; exact hR2 x x0 x1) z3 (fun T4 hR4 fr4 => ?_)
          rw [show ((c + 1 : Nat) : Int) + -1 = (c : Int) by omega]
          exact ihc (k + 1) T4 (by omega) hR4 (fun o j x hn => by rw [fr4 _ _ _ hn, fr3 _ _ _ (by omega), fr2 _ _ _ hn])
      have go : ∀ c : Int, c = cnS A S p i → b_X9_odds_141 p b q Q (h_X9_odds_81 p b q Q (d + 1)) i (-plS A i) c T1 := by
        intro c hcc
        unfold b_X9_odds_141
        have := heads (cnS A S p i).toNat 0 T1 (by omega) hR fr
        rw [show (((cnS A S p i).toNat : Nat) : Int) = c by omega] at this
        exact ⟨_, this⟩
      have go2 : ∀ u : Int, u = -plS A i → b_X9_odds_115 p b q Q (h_X9_odds_81 p b q Q (d + 1)) i u T1 := by
        intro u hu
        subst hu
        unfold b_X9_odds_115
        refine sp9_personOf hA L1 (by omega) (by omega) ?_
        refine ⟨by unfold zR; omega, hp, fun e => go _ ?_, fun e => ?_⟩
        · unfold cnS
          rw [if_neg e]
        · refine sp9_headsOf hA L1 hM hS H1 (by omega) (by omega) (go _ ?_)
          unfold cnS
          rw [if_pos e]
      rw [h_X9_odds_81, L1.2.1]
      refine ⟨by unfold zR; omega, by unfold zR; omega, fun z => absurd z (by omega), fun _ => ?_⟩
      refine sp9_isLie hA L1 (by omega) (by omega) ?_
      refine dec_ft (fun hl => ?_) (fun hl => ?_)
      · refine sp9_gramsOf hA L1 (by omega) (by omega) (go2 _ ?_)
        rw [l2 hl]
      · refine sp9_gramsOf hA L1 (by omega) (by omega) (go2 _ ?_)
        rw [l1 hl, Int.neg_neg]
  have key : ∀ (d i : Nat) (T1 : TH), i + d = 1200 → (∀ k : Int, 0 ≤ k → k < (i : Int) → T1 13 35 k = 0) → (∀ (o j : Nat) (x : Int), ¬ (o = 13 ∧ j = 35) → T1 o j x = T o j x) → h_X9_odds_35 p b q Q (d + 1) i T1 := by
    intro d
    induction d with
    | zero =>
      intro i T1 hi k1 k2
      have L1 : LandM T1 A := hL.off (fun j x hj => k2 _ _ _ (by omega))
      have H1 : HeadM T1 26 0 S := hH.eq (fun _ _ _ => k2 _ _ _ (by omega))
      rw [h_X9_odds_35]
      refine ⟨by unfold zR; omega, fun _ => ?_, fun h => absurd (by omega) h⟩
      refine sp9_weightOf hA L1 hM hS H1 hp ?_
      refine ⟨by omega, by omega, ?_⟩
      rintro _ rfl
      refine ⟨_, facts (A 1 0).toNat 0 _ (by omega) (fun k k0 kk => ?_) (fun o j x hn => by rw [up_ne (by omega)]; exact k2 _ _ _ (by omega))⟩
      show _ = if k - 600 = wtS A S p then 1000000000 else 0
      by_cases e : k = 600 + wtS A S p
      · rw [e, up_eq, if_pos (by omega)]
      · rw [up_ne (by omega), if_neg (by omega)]
        exact k1 k k0 (by omega)
    | succ d ih =>
      intro i T1 hi k1 k2
      rw [h_X9_odds_35]
      refine ⟨by unfold zR; omega, fun h => absurd h (by omega), fun _ => ⟨by omega, by omega, ?_⟩⟩
      rintro _ rfl
      refine ih (i + 1) _ (by omega) (fun k k0 kk => ?_) (fun o' j' x hn => ?_)
      · by_cases e : k = i
        · subst e
          rw [up_eq]
        · rw [up_ne (by omega)]
          exact k1 k k0 (by omega)
      · rw [up_ne (by omega)]
        exact k2 o' j' x hn
  exact ⟨_, key 1200 0 T (by omega) (fun k k0 k1 => by omega) (fun _ _ _ _ => rfl)⟩
theorem st_odds {T : TH} (H : Inv T) {p b q : Int} (hp : zR p) (hb : zR b) (hv : zR q) : wp_X8_odds p b q T (fun r1 T1 => wp_X9_odds p b q T1 (fun r2 T2 => r1 = r2 ∧ zR r1 ∧ Inv T2)) := by
  obtain ⟨A, S, h⟩ := H
  have h0 := h
  obtain ⟨a1, a2, a3, a4, a5, a6, a7, a8, a9, a10, a11, a12⟩ := h
  have h23 := lOK_23 a1
  have n0 := a3.1
  have n3 := a3.2.2.2.1
  have unk : ¬ ((0 ≤ p ∧ p < A 0 0) ∧ (0 ≤ b ∧ b < A 3 0)) → wp_X9_odds p b q T (fun r2 T2 => -1000000001 = r2 ∧ zR (-1000000001) ∧ Inv T2) := by
    intro hno
    unfold wp_X9_odds
    refine sp9_isOne a3 a5 hp ?_
    refine dec_ft (fun _ => ⟨rfl, zRu, A, S, h0⟩) (fun q1 => ?_)
    refine sp9_isBridge a3 a5 hb ?_
    exact dec_tf (fun q2 => absurd ⟨q1, q2⟩ hno) (fun _ => ⟨rfl, zRu, A, S, h0⟩)
  have out : (0 ≤ p ∧ p < A 0 0) → (0 ≤ b ∧ b < A 3 0) → ¬ (0 ≤ q ∧ q ≤ 100) → wp_X9_odds p b q T (fun r2 T2 => -1000000002 = r2 ∧ zR (-1000000002) ∧ Inv T2) := by
    intro q1 q2 hno
    unfold wp_X9_odds
    refine sp9_isOne a3 a5 hp ?_
    refine dec_ft (fun z => absurd q1 z) (fun _ => ?_)
    refine sp9_isBridge a3 a5 hb ?_
    refine dec_tf (fun _ => ?_) (fun z => absurd q2 z)
    refine sp9_in hv z0 (by unfold zR; omega) ?_
    exact dec_tf (fun z => absurd z hno) (fun _ => ⟨rfl, zRo, A, S, h0⟩)
  unfold wp_X8_odds
  refine sp_hasPerson a3 a6 hp ?_
  refine dec_ft (fun q1 => unk (fun z => q1 z.1)) (fun q1 => ?_)
  refine sp_hasBridge a3 a6 hb ?_
  refine dec_tf (fun q2 => ⟨hv, fun q3 => out q1 q2 (by omega), fun q3 => ⟨hv, fun q4 => ?_, fun q4 => out q1 q2 (by omega)⟩⟩) (fun q2 => unk (fun z => q2 z.2))
  have nb := a3.2.2.2.2.2.2.2.2 b q2.1 q2.2
  have ws := wt_split A S p
  have lr := lo_R a3 S p
  have ok := (odP_ok a3 S (p := p) (q := q) (by omega) q4 (A 1 0).toNat (Nat.le_refl _)).1
  refine sp_cSpread h23 a3 a6 a4 a8 q1.1 q1.2 (by omega) q4 (fun T1 c1 f1 => ⟨q2.1, by omega, ?_⟩)
  have e1 : T1 0 1 0 = T 0 1 0 := f1 _ _ _ (by omega)
  have eb : T1 (T 0 1 0).toNat 15 b = A 11 b := by
    rw [f1 _ _ _ (by omega)]
    exact a6.2.2.2.2.2.2.2.2.2.2.2 b q2.1 q2.2
  rw [e1, eb]
  refine sp_upTo ok (by omega) (by omega) (by omega) (by omega) (by omega) c1 (by unfold zR; omega) ?_
  have m1 : LandM T1 A := a5.off (fun j i hj => f1 _ _ _ (by omega))
  have k1 : HeadM T1 26 0 S := a7.eq (fun _ _ _ => f1 _ _ _ (by omega))
  unfold wp_X9_odds
  refine sp9_isOne a3 m1 hp ?_
  refine dec_ft (fun z => absurd q1 z) (fun _ => ?_)
  refine sp9_isBridge a3 m1 hb ?_
  refine dec_tf (fun _ => ?_) (fun z => absurd q2 z)
  refine sp9_in hv z0 (by unfold zR; omega) ?_
  refine dec_tf (fun _ => ?_) (fun z => absurd ⟨by omega, q4⟩ z)
  refine sp9_odds a3 m1 (by decide) a4 k1 hp q2.1 q2.2 (by omega) q4 (fun T2 f2 => ⟨rfl, ?_, A, S, h0.fr (fun o j i hs => ?_)⟩)
  · have := odA_R ok (A 11 b)
    unfold zR
    omega
  · have z1 : ¬ o = 11 := fun z => hs (by unfold scr; omega)
    have z2 : ¬ (o = 13 ∧ (j = 35 ∨ j = 36)) := fun z => hs (by unfold scr; omega)
    rw [f2 _ _ _ z2, f1 _ _ _ z1]
