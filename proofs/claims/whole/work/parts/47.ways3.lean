/-! ways: the reference -/
theorem zlc_R (a b : Int) : zR (zlc a b) := by
  unfold zlc zR
  split
  · omega
  · split <;> omega
theorem zlc_le (a : Int) : zlc a 0 ≤ 0 ↔ a ≤ 0 := by
  unfold zlc
  split
  · omega
  · split <;> omega
def wzS (A : LA) (p one hd : Int) : Nat → Int → Int
  | 0 => fun w => if w = 0 then 1 else 0
  | i + 1 => fun w => if A 6 i = p then sZ (fun k => if (i : Int) = one ∧ k ≠ hd then 0 else wzS A p one hd i (w - k * plS A i)) (A 0 0).toNat else wzS A p one hd i w
theorem wzS_0 (A : LA) (p one hd w : Int) : wzS A p one hd 0 w = if w = 0 then 1 else 0 := by rw [wzS]
theorem wzS_s (A : LA) (p one hd : Int) (i : Nat) (w : Int) : wzS A p one hd (i + 1) w = if A 6 i = p then sZ (fun k => if (i : Int) = one ∧ k ≠ hd then 0 else wzS A p one hd i (w - k * plS A i)) (A 0 0).toNat else wzS A p one hd i w := by rw [wzS]
def wzP (A : LA) (p one f : Int) : Bool := decide (A 6 f = p ∧ f ≠ one)
theorem sZ_one {g : Int → Int} {q : Int} {n : Nat} (q0 : 0 ≤ q) (q1 : q < n) : sZ (fun k => if k ≠ q then 0 else g k) n = g q := by
  have := sZ_diff (f := fun k => if k ≠ q then 0 else g k) (g := fun _ => 0) (q := q) (n := n) q0 q1 (fun i _ _ h => if_pos h)
  rw [this, sZ_const]
  simp
def dzS (A : LA) (p one hd : Int) (i : Nat) : Int := if 0 ≤ one ∧ one < (i : Int) ∧ A 6 one = p then hd * plS A one else 0
theorem dz_s {A : LA} {p one hd : Int} {i : Nat} (h : ¬ ((i : Int) = one ∧ A 6 i = p)) : dzS A p one hd (i + 1) = dzS A p one hd i := by
  unfold dzS
  by_cases c : 0 ≤ one ∧ one < (i : Int) ∧ A 6 one = p
  · rw [if_pos c, if_pos ⟨c.1, by omega, c.2.2⟩]
  · rw [if_neg c, if_neg]
    rintro ⟨x, y, z⟩
    by_cases e : (i : Int) = one
    · subst e
      exact h ⟨rfl, z⟩
    · exact c ⟨x, by omega, z⟩
theorem dz_R {A : LA} (hA : LAok A) {p one hd : Int} (h0 : 0 ≤ hd) (h1 : hd < A 0 0) {i : Nat} (hi : i ≤ (A 1 0).toNat) : -63 ≤ dzS A p one hd i ∧ dzS A p one hd i ≤ 63 := by
  have n0 := hA.1
  have n1 := hA.2.1
  unfold dzS
  split
  · rename_i c
    exact pl_R hA c.1 (by omega) h0 (by omega)
  · decide
theorem wz_eq {A : LA} {p one hd : Int} (h0 : 0 ≤ hd) (h1 : hd < A 0 0) : ∀ (i : Nat) (w : Int), wzS A p one hd i w = wyS A (wzP A p one) i (w - dzS A p one hd i)
  | 0, w => by
    have e : dzS A p one hd 0 = 0 := by
      unfold dzS
      exact if_neg (by omega)
    rw [wyS_0, wzS_0, e, Int.sub_zero]
  | i + 1, w => by
    have ih := wz_eq (p := p) (one := one) h0 h1 i
    rw [wzS_s, wyS_s]
    by_cases a : A 6 i = p
    · rw [if_pos a]
      by_cases e : (i : Int) = one
      · subst e
        have np : ¬ wzP A p i i = true := by
          unfold wzP
          simp
        rw [if_neg np]
        have e1 : sZ (fun k => if (i : Int) = (i : Int) ∧ k ≠ hd then 0 else wzS A p i hd i (w - k * plS A i)) (A 0 0).toNat = sZ (fun k => if k ≠ hd then 0 else wzS A p i hd i (w - k * plS A i)) (A 0 0).toNat := sZ_congr (fun k _ _ => by simp)
        have d0 : dzS A p i hd i = 0 := by
          unfold dzS
          exact if_neg (by omega)
        have d1 : dzS A p i hd (i + 1) = hd * plS A i := by
          unfold dzS
          exact if_pos ⟨by omega, by omega, a⟩
        rw [e1, sZ_one h0 (by omega), ih, d0, d1, Int.sub_zero]
      · rw [if_pos (show wzP A p one i = true from decide_eq_true ⟨a, e⟩), dz_s (fun z => e z.1)]
        refine sZ_congr (fun k _ _ => ?_)
        show (if (i : Int) = one ∧ k ≠ hd then 0 else _) = _
        rw [if_neg (fun z => e z.1), ih]
        congr 1
        omega
    · rw [if_neg a, if_neg (show ¬ wzP A p one i = true from fun z => a (of_decide_eq_true z).1), dz_s (fun z => a z.2), ih]
theorem wz_R {A : LA} (hA : LAok A) {p one hd : Int} (h0 : 0 ≤ hd) (h1 : hd < A 0 0) {i : Nat} (hi : i ≤ (A 1 0).toNat) (w : Int) : 0 ≤ wzS A p one hd i w ∧ wzS A p one hd i w ≤ 5764801 := by
  rw [wz_eq h0 h1]
  exact wyS_8 hA _ hi _
theorem wz_out {A : LA} (hA : LAok A) {p one hd : Int} (h0 : 0 ≤ hd) (h1 : hd < A 0 0) {i : Nat} (hi : i ≤ (A 1 0).toNat) {w : Int} (h : wzS A p one hd i w ≠ 0) : -499 ≤ w ∧ w ≤ 499 := by
  have n1 := hA.2.1
  have d := dz_R hA (p := p) (one := one) h0 h1 hi
  have t := tpS_R hA (by omega) (wzP A p one) i hi
  rw [wz_eq h0 h1] at h
  have o := wyS_out hA (by omega) (wzP A p one) i (w - dzS A p one hd i) hi
  by_cases c : w - dzS A p one hd i < loS A (wzP A p one) i ∨ loS A (wzP A p one) i + tpS A (wzP A p one) i < w - dzS A p one hd i
  · exact absurd (o c) h
  · omega
theorem lw_199 {T : TH} {p one hd v : Int} {Q : TH → Prop} {K : Int → TH → Prop} (hq : ∀ T', (∀ k, 0 ≤ k → k < 1200 → T' 13 35 k = T 13 36 k) → (∀ (o j : Nat) (i : Int), ¬ (o = 13 ∧ j = 35) → T' o j i = T o j i) → K (v + 1) T') : ∃ n, h_X9_layWays_199 p one hd Q K n v 0 T := by
  have key : ∀ (d i : Nat) (T1 : TH), i + d = 1200 → (∀ k : Int, 0 ≤ k → k < (i : Int) → T1 13 35 k = T 13 36 k) → (∀ (o j : Nat) (x : Int), ¬ (o = 13 ∧ j = 35) → T1 o j x = T o j x) → h_X9_layWays_199 p one hd Q K (d + 1) v i T1 := by
    intro d
    induction d with
    | zero =>
      intro i T1 hi k1 k2
      rw [h_X9_layWays_199]
      refine ⟨by unfold zR; omega, fun _ => ?_, fun h => absurd (by omega) h⟩
      unfold b_X9_layWays_227
      exact hq T1 (fun k k0 kk => k1 k k0 (by omega)) k2
    | succ d ih =>
      intro i T1 hi k1 k2
      rw [h_X9_layWays_199]
      refine ⟨by unfold zR; omega, fun h => absurd h (by omega), fun _ => ⟨by omega, by omega, by omega, by omega, ?_⟩⟩
      rintro _ rfl
      refine ih (i + 1) _ (by omega) (fun k k0 kk => ?_) (fun o' j' x hn => ?_)
      · by_cases e : k = i
        · subst e
          rw [up_eq]
          exact k2 13 36 _ (by omega)
        · rw [up_ne (by omega)]
          exact k1 k k0 (by omega)
      · rw [up_ne (by omega)]
        exact k2 o' j' x hn
  exact ⟨_, key 1200 0 T (by omega) (fun k k0 k1 => by omega) (fun _ _ _ _ => rfl)⟩
theorem lw_132 {T : TH} {p one hd i h b : Int} {R M : Int → Int} (hR : ∀ k, 0 ≤ k → k < 1200 → T 13 35 k = R (k - 600)) (hR0 : ∀ w, 0 ≤ R w ∧ R w ≤ 5764801) (hRs : ∀ w, R w ≠ 0 → -499 ≤ w ∧ w ≤ 499) (b0 : -63 ≤ b) (b1 : b ≤ 63) (hM : ∀ k, 0 ≤ k → k < 1200 → T 13 36 k = M k) (zi : zR i) (zo : zR one) (zh : zR h) (zd : zR hd) {Q : TH → Prop} {K37 : Int → TH → Prop} {K : Int → Int → TH → Prop} (hq : ∀ T', (∀ k, 0 ≤ k → k < 1200 → T' 13 36 k = M k + (if i = one ∧ h ≠ hd then 0 else R (k - 600 - b))) → (∀ (o j : Nat) (x : Int), ¬ (o = 13 ∧ j = 36) → T' o j x = T o j x) → K i (h + 1) T') : ∃ n, h_X9_layWays_132 p one hd Q K37 K n i h b 0 T := by
  by_cases al : i = one ∧ h ≠ hd
  · refine ⟨1, ?_⟩
    rw [h_X9_layWays_132]
    refine ⟨z0, fun q => absurd q (by omega), fun _ => ⟨zi, zo, fun q => absurd al.1 q, fun _ => ⟨zh, zd, fun _ => ?_, fun q => absurd q al.2⟩⟩⟩
    unfold b_X9_layWays_190
    exact hq T (fun k k0 kk => by rw [if_pos al, Int.add_zero]; exact hM k k0 kk) (fun _ _ _ _ => rfl)
  · have key : ∀ (d j : Nat) (T1 : TH), j + d = 1200 → (∀ x, 0 ≤ x → x < 1200 → T1 13 36 x = M x + (if x - b < (j : Int) then R (x - 600 - b) else 0)) → (∀ (o j : Nat) (x : Int), ¬ (o = 13 ∧ j = 36) → T1 o j x = T o j x) → h_X9_layWays_132 p one hd Q K37 K (d + 1) i h b j T1 := by
      intro d
      induction d with
      | zero =>
        intro j T1 hj k1 k2
        rw [h_X9_layWays_132]
        refine ⟨by unfold zR; omega, fun _ => ?_, fun q => absurd (by omega) q⟩
        unfold b_X9_layWays_190
        refine hq T1 (fun x x0 xx => ?_) k2
        rw [k1 x x0 xx, if_neg al]
        by_cases e : x - b < (j : Int)
        · rw [if_pos e]
        · rw [if_neg e]
          have z : R (x - 600 - b) = 0 := by
            by_cases z : R (x - 600 - b) = 0
            · exact z
            · have := hRs _ z
              omega
          rw [z]
      | succ d ih =>
        intro j T1 hj k1 k2
        have st : b_X9_layWays_152 p one hd Q K37 K (h_X9_layWays_132 p one hd Q K37 K (d + 1)) i h b j T1 := by
          have r := hR0 (j - 600)
          unfold b_X9_layWays_152
          rw [k2 13 35 _ (by omega), hR _ (by omega) (by omega)]
          refine ⟨by omega, by omega, by unfold zRL; omega, by unfold zRL; omega, zlc_R _ _, fun q => ?_, fun q => ?_⟩
          · rw [zlc_le] at q
            unfold b_X9_layWays_184
            refine ih (j + 1) T1 (by omega) (fun x x0 xx => ?_) k2
            rw [k1 x x0 xx]
            by_cases e : x - b = j
            · rw [if_neg (by omega), if_pos (by omega), show x - 600 - b = j - 600 by omega]
              omega
            · by_cases e2 : x - b < j
              · rw [if_pos e2, if_pos (by omega)]
              · rw [if_neg e2, if_neg (by omega)]
          · rw [zlc_le] at q
            have s := hRs (j - 600) (by omega)
            refine ⟨by omega, by omega, by omega, by omega, by omega, by omega, ?_⟩
            rintro _ rfl
            unfold b_X9_layWays_184
            refine ih (j + 1) _ (by omega) (fun x x0 xx => ?_) (fun o' j' x hn => by rw [up_ne (by omega)]; exact k2 o' j' x hn)
            by_cases e : x = j + b
            · subst e
              rw [up_eq, k1 _ x0 xx, if_neg (by omega), if_pos (by omega), show (j : Int) + b - 600 - b = j - 600 by omega]
              omega
            · rw [up_ne (by omega), k1 x x0 xx]
              by_cases e2 : x - b < j
              · rw [if_pos e2, if_pos (by omega)]
              · rw [if_neg e2, if_neg (by omega)]
        rw [h_X9_layWays_132]
        refine ⟨by unfold zR; omega, fun q => absurd q (by omega), fun _ => ⟨zi, zo, fun _ => st, fun q => ⟨zh, zd, fun q2 => absurd ⟨q, q2⟩ al, fun _ => st⟩⟩⟩
    refine ⟨_, key 1200 0 T (by omega) (fun x x0 xx => ?_) (fun _ _ _ _ => rfl)⟩
    rw [hM x x0 xx]
    by_cases e : x - b < ((0 : Nat) : Int)
    · rw [if_pos e]
      have z : R (x - 600 - b) = 0 := by
        by_cases z : R (x - 600 - b) = 0
        · exact z
        · have := hRs _ z
          omega
      rw [z, Int.add_zero]
    · rw [if_neg e, Int.add_zero]
theorem lw_87 {A : LA} {T : TH} {p one hd : Int} {i : Nat} {R : Int → Int} (hA : LAok A) (hL : LandM T A) (hi : i < (A 1 0).toNat) (hR : ∀ k, 0 ≤ k → k < 1200 → T 13 35 k = R (k - 600)) (hR0 : ∀ w, 0 ≤ R w ∧ R w ≤ 5764801) (hRs : ∀ w, R w ≠ 0 → -499 ≤ w ∧ w ≤ 499) (hz : ∀ k, 0 ≤ k → k < 1200 → T 13 36 k = 0) (zo : zR one) (zd : zR hd) {Q : TH → Prop} {K : Int → TH → Prop} (hq : ∀ T', (∀ k, 0 ≤ k → k < 1200 → T' 13 35 k = sZ (fun h => if (i : Int) = one ∧ h ≠ hd then 0 else R (k - 600 - h * plS A i)) (A 0 0).toNat) → (∀ (o j : Nat) (x : Int), ¬ (o = 13 ∧ (j = 35 ∨ j = 36)) → T' o j x = T o j x) → K (i + 1) T') : ∃ n, h_X9_layWays_87 p one hd Q K n i 0 T := by
  have n0 := hA.1
  have n1 := hA.2.1
  have key : ∀ (d h : Nat) (T1 : TH), h + d = (A 0 0).toNat → (∀ k, 0 ≤ k → k < 1200 → T1 13 36 k = sZ (fun h => if (i : Int) = one ∧ h ≠ hd then 0 else R (k - 600 - h * plS A i)) h) → (∀ (o j : Nat) (x : Int), ¬ (o = 13 ∧ j = 36) → T1 o j x = T o j x) → h_X9_layWays_87 p one hd Q K (d + 1) i h T1 := by
    intro d
    induction d with
    | zero =>
      intro h T1 hh k1 k2
      have L1 : LandM T1 A := hL.off (fun j x hj => k2 _ _ _ (by omega))
      rw [h_X9_layWays_87, L1.1]
      refine ⟨by unfold zR; omega, by unfold zR; omega, fun _ => ?_, fun q => absurd (by omega) q⟩
      refine lw_199 (fun T2 t1 t2 => hq T2 (fun k k0 kk => ?_) (fun o j x hn => ?_))
      · rw [t1 k k0 kk, k1 k k0 kk, show h = (A 0 0).toNat by omega]
      · rw [t2 _ _ _ (by omega), k2 _ _ _ (by omega)]
    | succ d ih =>
      intro h T1 hh k1 k2
      have L1 : LandM T1 A := hL.off (fun j x hj => k2 _ _ _ (by omega))
      have pr := pl_R hA (f := i) (by omega) (by omega) (h := h) (by omega) (by omega)
      have fin : ∀ b : Int, b = (h : Int) * plS A i → b_X9_layWays_127 p one hd Q K (h_X9_layWays_87 p one hd Q K (d + 1)) i h b T1 := by
        intro b hb
        subst hb
        unfold b_X9_layWays_127
        refine lw_132 (R := R) (M := fun k => sZ (fun h => if (i : Int) = one ∧ h ≠ hd then 0 else R (k - 600 - h * plS A i)) h) (fun k k0 kk => by rw [k2 _ _ _ (by omega)]; exact hR k k0 kk) hR0 hRs (by omega) (by omega) k1 (by unfold zR; omega) zo (by unfold zR; omega) zd (fun T2 t1 t2 => ?_)
        refine ih (h + 1) T2 (by omega) (fun k k0 kk => ?_) (fun o j x hn => ?_)
        · rw [t1 k k0 kk, sZ]
        · rw [t2 _ _ _ hn, k2 _ _ _ hn]
      rw [h_X9_layWays_87, L1.1]
      refine ⟨by unfold zR; omega, by unfold zR; omega, fun q => absurd q (by omega), fun _ => ?_⟩
      refine sp9_isLie hA L1 (by omega) (by omega) ?_
      refine dec_ft (fun hl => ?_) (fun hl => ?_)
      · refine sp9_gramsOf hA L1 (by omega) (by omega) (fin _ ?_)
        unfold plS
        rw [if_neg hl, Int.mul_comm]
      · refine sp9_gramsOf hA L1 (by omega) (by omega) (fin _ ?_)
        unfold plS
        rw [if_pos hl, Int.mul_comm]
  exact ⟨_, key (A 0 0).toNat 0 T (by omega) (fun k k0 kk => hz k k0 kk) (fun _ _ _ _ => rfl)⟩
theorem lw_62 {T : TH} {p one hd v : Int} {Q : TH → Prop} {K : Int → TH → Prop} (hq : ∀ T', (∀ k, 0 ≤ k → k < 1200 → T' 13 36 k = 0) → (∀ (o j : Nat) (i : Int), ¬ (o = 13 ∧ j = 36) → T' o j i = T o j i) → ∃ n, h_X9_layWays_87 p one hd Q K n v 0 T') : ∃ n, h_X9_layWays_62 p one hd Q K n v 0 T := by
  have key : ∀ (d i : Nat) (T1 : TH), i + d = 1200 → (∀ k : Int, 0 ≤ k → k < (i : Int) → T1 13 36 k = 0) → (∀ (o j : Nat) (x : Int), ¬ (o = 13 ∧ j = 36) → T1 o j x = T o j x) → h_X9_layWays_62 p one hd Q K (d + 1) v i T1 := by
    intro d
    induction d with
    | zero =>
      intro i T1 hi k1 k2
      rw [h_X9_layWays_62]
      exact ⟨by unfold zR; omega, fun _ => hq T1 (fun k k0 kk => k1 k k0 (by omega)) k2, fun h => absurd (by omega) h⟩
    | succ d ih =>
      intro i T1 hi k1 k2
      rw [h_X9_layWays_62]
      refine ⟨by unfold zR; omega, fun h => absurd h (by omega), fun _ => ⟨by omega, by omega, ?_⟩⟩
      rintro _ rfl
      refine ih (i + 1) _ (by omega) (fun k k0 kk => ?_) (fun o' j' x hn => ?_)
      · by_cases e : k = i
        · subst e
          rw [up_eq]
        · rw [up_ne (by omega)]
          exact k1 k k0 (by omega)
      · rw [up_ne (by omega)]
        exact k2 o' j' x hn
  exact ⟨_, key 1200 0 T (by omega) (fun k k0 k1 => by omega) (fun _ _ _ _ => rfl)⟩
theorem sp9_layWays {A : LA} {T : TH} {p one hd : Int} (hA : LAok A) (hL : LandM T A) (zp : zR p) (zo : zR one) (h0 : 0 ≤ hd) (h1 : hd < A 0 0) {Q : TH → Prop} (hq : ∀ T', (∀ k, 0 ≤ k → k < 1200 → T' 13 35 k = wzS A p one hd (A 1 0).toNat (k - 600)) → (∀ (o j : Nat) (x : Int), ¬ (o = 13 ∧ (j = 35 ∨ j = 36)) → T' o j x = T o j x) → Q T') : wp_X9_layWays p one hd T Q := by
  have n0 := hA.1
  have n1 := hA.2.1
  have facts : ∀ (d i : Nat) (T1 : TH), i + d = (A 1 0).toNat → (∀ k, 0 ≤ k → k < 1200 → T1 13 35 k = wzS A p one hd i (k - 600)) → (∀ (o j : Nat) (x : Int), ¬ (o = 13 ∧ (j = 35 ∨ j = 36)) → T1 o j x = T o j x) → h_X9_layWays_37 p one hd Q (d + 1) i T1 := by
    intro d
    induction d with
    | zero =>
      intro i T1 hi k1 k2
      have L1 : LandM T1 A := hL.off (fun j x hj => k2 _ _ _ (by omega))
      rw [h_X9_layWays_37, L1.2.1]
      refine ⟨by unfold zR; omega, by unfold zR; omega, fun _ => ?_, fun q => absurd (by omega) q⟩
      rw [show i = (A 1 0).toNat by omega] at k1
      exact hq T1 k1 k2
    | succ d ih =>
      intro i T1 hi k1 k2
      have L1 : LandM T1 A := hL.off (fun j x hj => k2 _ _ _ (by omega))
      have a6 := (hA.2.2.2.2.2.2.1 i (by omega) (by omega)).1
      rw [h_X9_layWays_37, L1.2.1]
      refine ⟨by unfold zR; omega, by unfold zR; omega, fun q => absurd q (by omega), fun _ => ?_⟩
      refine sp9_personOf hA L1 (by omega) (by omega) ?_
      refine ⟨by unfold zR; omega, zp, fun q => ?_, fun q => ?_⟩
      · refine lw_62 (fun T2 t1 t2 => ?_)
        have L2 : LandM T2 A := L1.off (fun j x hj => t2 _ _ _ (by omega))
        refine lw_87 (R := wzS A p one hd i) hA L2 (by omega) (fun k k0 kk => by rw [t2 _ _ _ (by omega)]; exact k1 k k0 kk) (fun w => wz_R hA h0 h1 (by omega) w) (fun w hw => wz_out hA h0 h1 (by omega) hw) t1 zo (by unfold zR; omega) (fun T3 s1 s2 => ?_)
        refine ih (i + 1) T3 (by omega) (fun k k0 kk => ?_) (fun o j x hn => ?_)
        · rw [s1 k k0 kk, wzS_s, if_pos q]
        · rw [s2 _ _ _ hn, t2 _ _ _ (by omega), k2 _ _ _ hn]
      · unfold b_X9_layWays_227
        refine ih (i + 1) T1 (by omega) (fun k k0 kk => ?_) k2
        rw [k1 k k0 kk, wzS_s, if_neg q]
  unfold wp_X9_layWays
  have key : ∀ (d i : Nat) (T1 : TH), i + d = 1200 → (∀ k : Int, 0 ≤ k → k < (i : Int) → T1 13 35 k = 0) → (∀ (o j : Nat) (x : Int), ¬ (o = 13 ∧ j = 35) → T1 o j x = T o j x) → h_X9_layWays_3 p one hd Q (d + 1) i T1 := by
    intro d
    induction d with
    | zero =>
      intro i T1 hi k1 k2
      rw [h_X9_layWays_3]
      refine ⟨by unfold zR; omega, fun _ => ?_, fun h => absurd (by omega) h⟩
      rintro _ rfl
      refine ⟨_, facts (A 1 0).toNat 0 _ (by omega) (fun k k0 kk => ?_) (fun o j x hn => by rw [up_ne (by omega)]; exact k2 _ _ _ (by omega))⟩
      rw [wzS_0]
      by_cases e : k = 600
      · subst e
        rw [up_eq]
        rfl
      · rw [up_ne (by omega), if_neg (by omega)]
        exact k1 k k0 (by omega)
    | succ d ih =>
      intro i T1 hi k1 k2
      rw [h_X9_layWays_3]
      refine ⟨by unfold zR; omega, fun h => absurd h (by omega), fun _ => ⟨by omega, by omega, ?_⟩⟩
      rintro _ rfl
      refine ih (i + 1) _ (by omega) (fun k k0 kk => ?_) (fun o' j' x hn => ?_)
      · by_cases e : k = i
        · subst e
          rw [up_eq]
        · rw [up_ne (by omega)]
          exact k1 k k0 (by omega)
      · rw [up_ne (by omega)]
        exact k2 o' j' x hn
  exact ⟨_, key 1200 0 T (by omega) (fun k k0 k1 => by omega) (fun _ _ _ _ => rfl)⟩
theorem sp9_waysTo {T : TH} {R : Int → Int} (hR : ∀ k, 0 ≤ k → k < 1200 → T 13 35 k = R (k - 600)) (hRs : ∀ w, R w ≠ 0 → -499 ≤ w ∧ w ≤ 499) {w : Int} (hw : zR w) {Q : Int → TH → Prop} (hq : Q (R w) T) : wp_X9_waysTo w T Q := by
  unfold wp_X9_waysTo
  refine sp9_in hw (by unfold zR; omega) (by unfold zR; omega) ?_
  refine dec_ft (fun h => ?_) (fun h => ⟨by omega, by omega, ?_⟩)
  · have z : R w = 0 := by
      by_cases z : R w = 0
      · exact z
      · have := hRs _ z
        omega
    rw [z] at hq
    exact hq
  · rw [hR _ (by omega) (by omega), show 600 + w - 600 = w by omega]
    exact hq
theorem sp9_cnt {A : LA} {T : TH} {p f w v : Int} (hA : LAok A) (hL : LandM T A) (zp : zR p) (zw : zR w) (f0 : 0 ≤ f) (f1 : f < A 1 0) (hp : A 6 f = p) (hv : v = 0 ∨ v = 1) {Q : Int → TH → Prop} (hq : ∀ T', (∀ (o j : Nat) (x : Int), ¬ (o = 13 ∧ (j = 35 ∨ j = 36)) → T' o j x = T o j x) → Q (if v = 0 then lwF (cwB A (wzP A p f) f w) (A 0 0).toNat 0 else mxF (cwB A (wzP A p f) f w) (A 0 0).toNat) T') : ∃ n, h_X9_counted_75 p w f v Q n (-1) 0 T := by
  have n0 := hA.1
  have n1 := hA.2.1
  have key : ∀ (d k : Nat) (u : Int) (T1 : TH), k + d = (A 0 0).toNat → u = (if v = 0 then lwF (cwB A (wzP A p f) f w) k (A 0 0 - k) else mxF (cwB A (wzP A p f) f w) k) → (∀ (o j : Nat) (x : Int), ¬ (o = 13 ∧ (j = 35 ∨ j = 36)) → T1 o j x = T o j x) → h_X9_counted_75 p w f v Q (d + 1) u k T1 := by
    intro d
    induction d with
    | zero =>
      intro k u T1 hk hu k2
      have L1 : LandM T1 A := hL.off (fun j x hj => k2 _ _ _ (by omega))
      rw [h_X9_counted_75, L1.1]
      refine ⟨by unfold zR; omega, by unfold zR; omega, fun _ => ?_, fun q => absurd (by omega) q⟩
      have ek : k = (A 0 0).toNat := by omega
      subst ek
      rw [show A 0 0 - ((A 0 0).toNat : Int) = 0 by omega] at hu
      rw [hu]
      exact hq T1 k2
    | succ d ih =>
      intro k u T1 hk hu k2
      have L1 : LandM T1 A := hL.off (fun j x hj => k2 _ _ _ (by omega))
      have st : ∀ h : Int, 0 ≤ h → h < A 0 0 → (if cwB A (wzP A p f) f w h = true then h else u) = (if v = 0 then lwF (cwB A (wzP A p f) f w) (k + 1) (A 0 0 - ((k + 1 : Nat) : Int)) else mxF (cwB A (wzP A p f) f w) (k + 1)) → b_X9_counted_112 p w f v Q (h_X9_counted_75 p w f v Q (d + 1)) u k h T1 := by
        intro h h0 h1 he
        unfold b_X9_counted_112
        refine sp9_layWays hA L1 zp (by unfold zR; omega) h0 h1 (fun T2 t1 t2 => ?_)
        refine sp9_waysTo t1 (fun w hw => wz_out hA h0 h1 (Nat.le_refl _) hw) zw ?_
        have r := wz_R hA (p := p) (one := f) h0 h1 (i := (A 1 0).toNat) (Nat.le_refl _) w
        have fr : ∀ (o j : Nat) (x : Int), ¬ (o = 13 ∧ (j = 35 ∨ j = 36)) → T2 o j x = T o j x := fun o j x hn => by rw [t2 _ _ _ hn, k2 _ _ _ hn]
        have dz : dzS A p f h (A 1 0).toNat = h * plS A f := by
          unfold dzS
          exact if_pos ⟨f0, by omega, hp⟩
        have ee : wzS A p f h (A 1 0).toNat w = wyS A (wzP A p f) (A 1 0).toNat (w - h * plS A f) := by rw [wz_eq h0 h1, dz]
        refine ⟨by unfold zRL; omega, by unfold zRL; omega, zlc_R _ _, fun q => ?_, fun q => ?_⟩
        · rw [zlc_le] at q
          rw [if_neg (by unfold cwB; rw [decide_eq_true_iff]; omega)] at he
          unfold b_X9_counted_139
          exact ih (k + 1) _ T2 (by omega) he fr
        · rw [zlc_le] at q
          rw [if_pos (by unfold cwB; rw [decide_eq_true_iff]; omega)] at he
          unfold b_X9_counted_139
          exact ih (k + 1) _ T2 (by omega) he fr
      rw [h_X9_counted_75, L1.1]
      refine ⟨by unfold zR; omega, by unfold zR; omega, fun q => absurd q (by omega), fun _ => ?_⟩
      refine sp9_personOf hA L1 f0 f1 ?_
      rw [L1.1]
      refine ⟨by rw [hp]; exact zp, zp, fun q => absurd hp q, fun _ => ⟨by unfold zR; omega, fun q => ?_, fun q => ?_⟩⟩
      · refine st k (by omega) (by omega) ?_
        rw [if_neg q] at hu
        rw [if_neg q, mxF, hu]
      · refine st _ (by omega) (by omega) ?_
        rw [if_pos q] at hu
        rw [if_pos q, lwF, hu, show A 0 0 - 1 - (k : Int) = A 0 0 - ((k + 1 : Nat) : Int) by omega, show A 0 0 - ((k + 1 : Nat) : Int) + 1 = A 0 0 - (k : Int) by omega]
  refine ⟨_, key (A 0 0).toNat 0 (-1) T (by omega) ?_ (fun _ _ _ _ => rfl)⟩
  rcases hv with e | e <;> subst e <;> rfl
