/-! treaties -/
theorem sub_any {n : Nat} (hn : n ≤ 31) (P : Int → Bool) {x : Int} (hx : ms n x) : zand x (zxor (mkS P n) (-1)) = 0 ↔ anyZ (fun f => (!P f) && bt x f) n = false := by
  obtain ⟨m1, m2⟩ := mkS_ok P hn
  have x31 := ms_up hx hn
  obtain ⟨c1, c2⟩ := zandn_b x31 (ms_up m1 hn)
  constructor
  · intro e
    cases q : anyZ (fun f => (!P f) && bt x f) n with
    | false => rfl
    | true =>
      obtain ⟨f, f0, f1, f2⟩ := anyZ_iff.mp q
      have f2 : ((!P f) && bt x f) = true := f2
      rw [Bool.and_eq_true] at f2
      have := c2 f
      rw [e, bt_0, f2.2, m2 f f0, decide_eq_true f1, Bool.true_and, Bool.true_and, f2.1] at this
      exact absurd this (by decide)
  · intro q
    refine ms_ext c1 (ms_0 31) (fun k k0 k1 => ?_)
    rw [c2 k, bt_0]
    cases r : bt x k with
    | false => rfl
    | true =>
      have kn : k < n := by
        by_cases z : k < n
        · exact z
        · rw [bt_big hx (by omega)] at r
          exact absurd r (by decide)
      rw [m2 k k0, decide_eq_true kn, Bool.true_and, Bool.true_and]
      cases pk : P k with
      | true => rfl
      | false =>
        have : anyZ (fun f => (!P f) && bt x f) n = true := anyZ_iff.mpr ⟨k, k0, kn, by rw [r, pk]; rfl⟩
        rw [q] at this
        exact absurd this (by decide)
def tyP (A : LA) (S : HA) (a b f : Int) : Bool := decide (A 6 f = b ∧ S 0 a f ≠ -1 ∧ ¬ A 8 f = 1)
def tyF (A : LA) (S : HA) (a b : Int) : Int := mkS (tyP A S a b) (A 1 0).toNat
def ghS (A : LA) (x : Int) (n : Nat) : Int := sZ (fun f => if bt x f = true then A 7 f else 0) n
def tyG (A : LA) (S : HA) (a b g x : Int) : Bool := decide (zand x (zxor (tyF A S a b) (-1)) = 0 ∧ ghS A x (A 1 0).toNat = g)
theorem ghS_R {A : LA} (hA : LAok A) (x : Int) {n : Nat} (hn : n ≤ (A 1 0).toNat) : 0 ≤ ghS A x n ∧ ghS A x n ≤ 72 := by
  have n1 := hA.2.1
  have b : ∀ i : Int, 0 ≤ i → i < (n : Int) → 0 ≤ (if bt x i = true then A 7 i else 0) ∧ (if bt x i = true then A 7 i else 0) ≤ 9 := fun i i0 i1 => by
    have h3 := (hA.2.2.2.2.2.2.1 i i0 (by omega)).2.1
    split <;> omega
  refine ⟨sZ_nonneg (fun i i0 i1 => (b i i0 i1).1), ?_⟩
  have := sZ_le (f := fun f => if bt x f = true then A 7 f else 0) (g := fun _ => 9) (n := n) (fun i i0 i1 => (b i i0 i1).2)
  rw [sZ_const] at this
  unfold ghS
  omega
theorem sp_gramsAHead {A : LA} {T : TH} {o : Nat} (hA : LAok A) (hC : LandC T o A) {x : Int} (hx : ms 31 x) {Q : Int → TH → Prop} (hq : Q (ghS A x (A 1 0).toNat) T) : wp_X5_gramsAHead o x T Q := by
  have n1 := hA.2.1
  unfold wp_X5_gramsAHead
  refine ⟨(A 1 0).toNat + 1, ?_⟩
  have key : ∀ (d i : Nat), i + d = (A 1 0).toNat → h_X5_gramsAHead_4 o x Q (d + 1) (ghS A x i) i T := by
    intro d
    induction d with
    | zero =>
      intro i hi
      have : i = (A 1 0).toNat := by omega
      subst this
      rw [h_X5_gramsAHead_4, hC.2.1]
      have gr := ghS_R hA x (Nat.le_refl (A 1 0).toNat)
      have hz : zmin 72 (ghS A x (A 1 0).toNat) = ghS A x (A 1 0).toNat := by
        unfold zmin
        split <;> omega
      rw [hz]
      exact ⟨by unfold zR; omega, by unfold zR; omega, fun _ => ⟨by unfold zR; omega, hq⟩, fun z => absurd (by omega) z⟩
    | succ d ih =>
      intro i hi
      have ihn := ih (i + 1) (by omega)
      rw [show ghS A x (i + 1) = ghS A x i + (if bt x i = true then A 7 i else 0) from rfl] at ihn
      rw [h_X5_gramsAHead_4, hC.2.1, (hC.2.2.2.2.2.2.2.1 i (by omega) (by omega)).2, bit_at hx (by omega) (by omega)]
      refine ⟨by unfold zR; omega, by unfold zR; omega, fun z => absurd z (by omega), fun _ => ⟨by omega, by omega, ?_⟩⟩
      rintro _ rfl
      cases q : bt x i with
      | true =>
        rw [if_pos q] at ihn
        rw [show zi true = 1 from rfl, Int.one_mul]
        exact ihn
      | false =>
        rw [if_neg (by rw [q]; decide)] at ihn
        rw [show zi false = 0 from rfl, Int.zero_mul]
        exact ihn
  exact key (A 1 0).toNat 0 (by omega)
theorem sp_toForget {A : LA} {T : TH} {S : HA} {a b : Int} (hA : LAok A) (hC : LandC T (T 0 1 0).toNat A) (hH : HeadC T 4 S) (a0 : 0 ≤ a) (a1 : a < A 0 0) (b0 : 0 ≤ b) (b1 : b < A 0 0) {Q : Int → TH → Prop} (hq : Q (tyF A S a b) T) : wp_X8_factsToForget a b T Q := by
  have n0 := hA.1
  have n1 := hA.2.1
  unfold wp_X8_factsToForget
  refine ⟨b0, by omega, sp_factsIn hH a0 (by omega) ?_⟩
  rw [factsOf_eq hA hC b0 b1]
  obtain ⟨m1, m2⟩ := hisS_ok hA b
  obtain ⟨k1, k2⟩ := mkS_ok (fun f => decide (S 0 a f ≠ -1)) (n := 8) (by decide)
  obtain ⟨l1, l2⟩ := hC.2.2.2.2.2.2.1
  obtain ⟨t1, t2⟩ := mkS_ok (tyP A S a b) (n := (A 1 0).toNat) (by omega)
  obtain ⟨c1, c2⟩ := zand_b (ms_up m1 (by omega)) (ms_up k1 (show 8 ≤ 31 by decide))
  obtain ⟨d1, d2⟩ := zandn_b c1 (ms_up l1 (show 8 ≤ 31 by decide))
  have e : zand (zand (hisS A b) (mkS (fun f => decide (S 0 a f ≠ -1)) 8)) (zxor (T (T 0 1 0).toNat 6 0) (-1)) = tyF A S a b := by
    refine ms_ext d1 (ms_up t1 (by omega)) (fun f f0 f1 => ?_)
    rw [d2 f, c2 f, m2 f f0, k2 f f0]
    show _ = bt (mkS (tyP A S a b) (A 1 0).toNat) f
    rw [t2 f f0]
    by_cases x1 : f < A 1 0
    · rw [l2 f f0 x1, decide_eq_true (show f < ((A 1 0).toNat : Int) by omega), decide_eq_true (show f < ((8 : Nat) : Int) by omega), Bool.true_and, Bool.true_and]
      unfold tyP
      by_cases y1 : A 6 f = b <;> by_cases y2 : S 0 a f = -1 <;> by_cases y3 : A 8 f = 1 <;> simp [x1, y1, y2, y3]
    · rw [decide_eq_false (show ¬ (f < A 1 0 ∧ A 6 f = b) from fun z => x1 z.1), decide_eq_false (show ¬ f < ((A 1 0).toNat : Int) by omega)]
      rfl
  rw [e]
  exact hq
theorem sp_findParts {A : LA} {T : TH} {S : HA} {o j : Nat} {a b : Int} (hA : LAok A) (ho : o = 2 ∨ o = 3) (hC : LandC T o A) {Q : TH → Prop} (hq : ∀ T', (∀ g, 0 ≤ g → g < 73 → loR (tyG A S a b g) 0 ((2 ^ (A 1 0).toNat : Nat) : Int) (T' 12 j g)) → (∀ o' j' i, ¬ (o' = 12 ∧ j' = j) → T' o' j' i = T o' j' i) → Q T') : wp_X5_findParts o (tyF A S a b) 12 j 73 T Q := by
  have n1 := hA.2.1
  obtain ⟨t1, t2⟩ := mkS_ok (tyP A S a b) (n := (A 1 0).toNat) (by omega)
  have t1 : ms (A 1 0).toNat (tyF A S a b) := t1
  have t8 : ms 8 (tyF A S a b) := ms_up t1 (by omega)
  have h255 : 0 ≤ tyF A S a b ∧ tyF A S a b < 256 := t8
  have eN : ((2 ^ (A 1 0).toNat : Nat) : Int) = (2 : Int) ^ (A 1 0).toNat := by simp
  have hN : tyF A S a b < ((2 ^ (A 1 0).toNat : Nat) : Int) := by
    have := t1.2
    omega
  have big : ∀ g x, tyF A S a b < x → x < ((2 ^ (A 1 0).toNat : Nat) : Int) → tyG A S a b g x = false := fun g x x0 x1 => by
    refine decide_eq_false (fun z => ?_)
    have xm : ms (A 1 0).toNat x := ⟨by omega, by omega⟩
    have := (sub_ms (by omega) (ms_up xm (by omega)) t1 z.1).2.1
    omega
  unfold wp_X5_findParts
  refine sp_fill (by decide) (fun T1 c1 c2 => ?_)
  have l1 : LandC T1 o A := hC.off (fun j' i => c2 _ _ _ (by omega))
  have key : ∀ (d i : Nat) (T2 : TH), (i : Int) + d = tyF A S a b + 1 → (∀ g, 0 ≤ g → g < 73 → loR (tyG A S a b g) 0 i (T2 12 j g)) → (∀ o' j' i, ¬ (o' = 12 ∧ j' = j) → T2 o' j' i = T1 o' j' i) → h_X5_findParts_7 o (tyF A S a b) 12 j 73 Q (d + 1) i T2 := by
    intro d
    induction d with
    | zero =>
      intro i T2 hi k1 k2
      rw [h_X5_findParts_7]
      refine ⟨by unfold zR; omega, by unfold zR; omega, fun _ => ?_, fun z => absurd (by omega) z⟩
      refine hq T2 (fun g g0 g1 => ?_) (fun o' j' x hn => by rw [k2 _ _ _ hn, c2 _ _ _ hn])
      rcases k1 g g0 g1 with ⟨a1, a2⟩ | ⟨a1, a2, a3, a4⟩
      · refine Or.inl ⟨a1, fun x x0 x1 => ?_⟩
        by_cases e : x < i
        · exact a2 x x0 e
        · exact big g x (by omega) x1
      · exact Or.inr ⟨a1, by omega, a3, a4⟩
    | succ d ih =>
      intro i T2 hi k1 k2
      have im : ms 31 (i : Int) := ⟨by omega, by omega⟩
      have l2 : LandC T2 o A := l1.off (fun j' x => k2 _ _ _ (by omega))
      have keep : ∀ g, loR (tyG A S a b g) 0 i (T2 12 j g) → (tyG A S a b g i = false ∨ T2 12 j g ≠ -1) → loR (tyG A S a b g) 0 ((i + 1 : Nat) : Int) (T2 12 j g) := fun g h1 h2 => by
        rcases h1 with ⟨a1, a2⟩ | ⟨a1, a2, a3, a4⟩
        · refine Or.inl ⟨a1, fun x x0 x1 => ?_⟩
          by_cases e : x < i
          · exact a2 x x0 e
          · have : x = i := by omega
            subst this
            rcases h2 with h2 | h2
            · exact h2
            · exact absurd a1 h2
        · exact Or.inr ⟨a1, by omega, a3, a4⟩
      rw [h_X5_findParts_7]
      refine ⟨by unfold zR; omega, by unfold zR; omega, fun z => absurd z (by omega), fun _ => ⟨zR_to _, fun z => ?_, fun z => ?_⟩⟩
      · refine ih (i + 1) T2 (by omega) (fun g g0 g1 => keep g (k1 g g0 g1) (Or.inl (decide_eq_false (fun q => z q.1)))) k2
      · have gr := ghS_R hA (i : Int) (Nat.le_refl (A 1 0).toNat)
        have r1 : -1 ≤ T2 12 j (ghS A i (A 1 0).toNat) ∧ T2 12 j (ghS A i (A 1 0).toNat) ≤ 256 := by
          rcases k1 _ gr.1 (by omega) with ⟨a1, _⟩ | ⟨a1, a2, _⟩ <;> omega
        refine sp_gramsAHead hA l2 im ⟨gr.1, by omega, by unfold zR; omega, fun q => ?_, fun q => ⟨gr.1, by omega, ?_⟩⟩
        · refine ih (i + 1) T2 (by omega) (fun g g0 g1 => keep g (k1 g g0 g1) ?_) k2
          by_cases e : ghS A i (A 1 0).toNat = g
          · rw [e] at q
            exact Or.inr q
          · exact Or.inl (decide_eq_false (fun w => e w.2))
        · rintro _ rfl
          refine ih (i + 1) _ (by omega) (fun g g0 g1 => ?_) (fun o' j' x hn => by rw [up_ne (by omega), k2 _ _ _ hn])
          by_cases e : g = ghS A i (A 1 0).toNat
          · have k := k1 g g0 g1
            subst e
            rw [up_eq]
            refine Or.inr ⟨by omega, by omega, decide_eq_true ⟨z, rfl⟩, fun x x0 x1 => ?_⟩
            rcases k with ⟨a1, a2⟩ | ⟨a1, a2, a3, a4⟩
            · exact a2 x x0 x1
            · omega
          · rw [up_ne (by omega)]
            exact keep g (k1 g g0 g1) (Or.inl (decide_eq_false (fun w => e w.2.symm)))
  refine ⟨(tyF A S a b + 1).toNat + 1, ?_⟩
  exact key (tyF A S a b + 1).toNat 0 T1 (by omega) (fun g g0 g1 => Or.inl ⟨c1 g g0 (by omega), fun x x0 x1 => by omega⟩) (fun _ _ _ _ => rfl)
def tyN (A : LA) (S : HA) (a b x f : Int) : Bool := (!tyP A S a b f) && bt x f
theorem tyN_eq (A : LA) (S : HA) (a b x f : Int) : tyN A S a b x f = ((!tyP A S a b f) && bt x f) := rfl
theorem ty_iff {A : LA} {S : HA} {a b g x : Int} (hA : LAok A) (hx : ms (A 1 0).toNat x) : tyG A S a b g x = (!anyZ (tyN A S a b x) (A 1 0).toNat && decide (ghS A x (A 1 0).toNat = g)) := by
  have n1 := hA.2.1
  have e := sub_any (show (A 1 0).toNat ≤ 31 by omega) (tyP A S a b) hx
  have e : zand x (zxor (tyF A S a b) (-1)) = 0 ↔ anyZ (tyN A S a b x) (A 1 0).toNat = false := e
  unfold tyG
  cases q : anyZ (tyN A S a b x) (A 1 0).toNat with
  | false =>
    rw [Bool.not_false, Bool.true_and]
    exact decide_eq_decide.mpr ⟨fun z => z.2, fun z => ⟨e.mpr q, z⟩⟩
  | true =>
    rw [Bool.not_true, Bool.false_and]
    refine decide_eq_false (fun z => ?_)
    have := e.mp z.1
    rw [q] at this
    exact absurd this (by decide)
theorem sp9_forgotten {A : LA} {T : TH} {S : HA} {M a b g : Int} (hA : LAok A) (hL : LandM T A) (hM : M ≤ 1000000) (hS : HAok A S M) (hH : HeadM T 26 0 S) (a0 : 0 ≤ a) (a1 : a < A 0 0) (hb : zR b) (hg : zR g) {Q : Int → TH → Prop} (hq : ∀ r, loR (tyG A S a b g) 0 ((2 ^ (A 1 0).toNat : Nat) : Int) r → Q r T) : wp_X9_forgotten a b g T Q := by
  have n0 := hA.1
  have n1 := hA.2.1
  have eN : ((2 ^ (A 1 0).toNat : Nat) : Int) = (2 : Int) ^ (A 1 0).toNat := by simp
  have p256 : (2 : Nat) ^ (A 1 0).toNat ≤ 256 := Nat.pow_le_pow_right (n := 2) (by decide) (show (A 1 0).toNat ≤ 8 by omega)
  have inner : ∀ (K : Int → Int → TH → Prop) (r x : Int), ms (A 1 0).toNat x → (tyG A S a b g x = false → K r (x + (-1)) T) → (tyG A S a b g x = true → K x (x + (-1)) T) → ∃ n, h_X9_forgotten_27 a b g Q K n r x 0 true 0 T := by
    intro K r x hx h1 h2
    have x31 := ms_up hx (show (A 1 0).toNat ≤ 31 by omega)
    rw [ty_iff hA hx] at h1 h2
    have key : ∀ (d i : Nat), i + d = (A 1 0).toNat → h_X9_forgotten_27 a b g Q K (d + 1) r x (ghS A x i) (!anyZ (tyN A S a b x) i) i T := by
      intro d
      induction d with
      | zero =>
        intro i hi
        have : i = (A 1 0).toNat := by omega
        subst this
        have gr := ghS_R hA x (Nat.le_refl (A 1 0).toNat)
        rw [h_X9_forgotten_27, hL.2.1]
        refine ⟨by unfold zR; omega, by unfold zR; omega, fun _ => ⟨fun z => ?_, fun z => ⟨by unfold zR; omega, hg, fun z2 => ?_, fun z2 => ?_⟩⟩, fun z => absurd (by omega) z⟩
        · exact h1 (by rw [z]; rfl)
        · exact h1 (by rw [z, decide_eq_false z2]; rfl)
        · exact h2 (by rw [z, decide_eq_true z2]; rfl)
      | succ d ih =>
        intro i hi
        have ihn := ih (i + 1) (by omega)
        rw [show ghS A x (i + 1) = ghS A x i + (if bt x i = true then A 7 i else 0) from rfl, anyZ] at ihn
        have fin : ∀ y : Bool, y = (!(anyZ (tyN A S a b x) i || tyN A S a b x i)) → ∀ bx : Bool, bx = bt x i → b_X9_forgotten_101 a b g Q K (h_X9_forgotten_27 a b g Q K (d + 1)) r x (ghS A x i) i bx y T := by
          rintro _ rfl _ rfl
          refine ⟨fun z => ?_, fun z => ?_⟩
          · show ∀ w1 : Int, w1 = _ → _
            rintro _ rfl
            rw [if_neg (by rw [z]; decide)] at ihn
            exact ihn
          · refine sp9_gramsOf hA hL (by omega) (by omega) ?_
            show ∀ w1 : Int, w1 = _ → _
            rintro _ rfl
            rw [if_pos z] at ihn
            exact ihn
        have mid : ∀ bx : Bool, bx = bt x i → b_X9_forgotten_52 a b g Q K (h_X9_forgotten_27 a b g Q K (d + 1)) r x (ghS A x i) (!anyZ (tyN A S a b x) i) i bx T := by
          intro bx hbx
          refine ⟨fun z => fin false ?_ bx hbx, fun z => ?_⟩
          · rw [Bool.not_eq_false'] at z
            rw [z]
            rfl
          · rw [Bool.not_eq_true'] at z
            refine ⟨fun z2 => fin true ?_ bx hbx, fun z2 => ?_⟩
            · rw [z, tyN_eq, ← hbx, z2, Bool.and_false]
              rfl
            · have no : ¬ (A 6 i = b ∧ S 0 a i ≠ -1 ∧ ¬ A 8 i = 1) → b_X9_forgotten_100 a b g Q K (h_X9_forgotten_27 a b g Q K (d + 1)) r x (ghS A x i) i bx T := fun q => by
                refine fin false ?_ bx hbx
                rw [z, tyN_eq, ← hbx, z2, show tyP A S a b i = false from decide_eq_false q]
                rfl
              refine sp9_personOf hA hL (by omega) (by omega) ⟨?_, hb, fun q => no (fun w => q w.1), fun q => ?_⟩
              · have := (hA.2.2.2.2.2.2.1 i (by omega) (by omega)).1
                unfold zR
                omega
              · refine sp9_knows hM hS hH a0 (by omega) (by omega) (by omega) ?_
                refine dec_ft (fun q2 => no (fun w => q2 w.2.1)) (fun q2 => ?_)
                refine sp9_isLie hA hL (by omega) (by omega) ?_
                refine dec_tf (fun q3 => no (fun w => w.2.2 q3)) (fun q3 => fin true ?_ bx hbx)
                rw [z, tyN_eq, show tyP A S a b i = true from decide_eq_true ⟨q, q2, q3⟩]
                rfl
        rw [h_X9_forgotten_27, hL.2.1, bit_at x31 (by omega) (by omega)]
        refine ⟨by unfold zR; omega, by unfold zR; omega, fun z => absurd z (by omega), fun _ => ⟨zi_R _, fun z => mid false ?_, fun z => mid true ?_⟩⟩
        · cases q : bt x i with
          | false => rfl
          | true =>
            rw [q] at z
            exact absurd rfl z
        · exact ((zi_1 _).mp z).symm
    exact ⟨(A 1 0).toNat + 1, key (A 1 0).toNat 0 (by omega)⟩
  unfold wp_X9_forgotten
  rw [hL.2.1, evf_eq hA]
  have key : ∀ (i : Nat) (r : Int), i ≤ 2 ^ (A 1 0).toNat → loR (tyG A S a b g) i ((2 ^ (A 1 0).toNat : Nat) : Int) r → h_X9_forgotten_13 a b g Q (i + 1) r ((i : Int) - 1) T := by
    intro i
    induction i with
    | zero =>
      intro r hi k1
      rw [h_X9_forgotten_13]
      exact ⟨by unfold zR; omega, fun _ => hq r k1, fun z => absurd (by omega) z⟩
    | succ i ih =>
      intro r hi k1
      have ii : (((i + 1 : Nat) : Int) - 1) = (i : Int) := by omega
      rw [ii, h_X9_forgotten_13]
      refine ⟨by unfold zR; omega, fun z => absurd z (by omega), fun _ => ?_⟩
      have im : ms (A 1 0).toNat (i : Int) := ⟨by omega, by omega⟩
      refine inner _ r i im (fun hz => ih r (by omega) ?_) (fun hz => ih i (by omega) (Or.inr ⟨by omega, by omega, hz, fun x x0 x1 => by omega⟩))
      rcases k1 with ⟨b1, b2⟩ | ⟨b1, b2, b3, b4⟩
      · refine Or.inl ⟨b1, fun x x0 x1 => ?_⟩
        by_cases e : x = i
        · subst e
          exact hz
        · exact b2 x (by omega) x1
      · refine Or.inr ⟨by omega, b2, b3, fun x x0 x1 => ?_⟩
        by_cases e : x = i
        · subst e
          exact hz
        · exact b4 x (by omega) x1
  rintro _ rfl
  have := key (2 ^ (A 1 0).toNat) (-1) (Nat.le_refl _) (Or.inl ⟨rfl, fun x x0 x1 => by omega⟩)
  rw [eN] at this
  exact ⟨_, this⟩
theorem ty_0 {A : LA} (hA : LAok A) (S : HA) (a b : Int) {r : Int} (h : loR (tyG A S a b 0) 0 ((2 ^ (A 1 0).toNat : Nat) : Int) r) : r ≠ -1 := by
  intro e
  subst e
  have p : (0 : Int) < ((2 ^ (A 1 0).toNat : Nat) : Int) := by
    have := Nat.two_pow_pos (A 1 0).toNat
    omega
  rcases h with ⟨_, b2⟩ | ⟨b1, _⟩
  · have := b2 0 (Int.le_refl _) p
    rw [ty_iff hA (ms_0 _)] at this
    have e1 : anyZ (tyN A S a b 0) (A 1 0).toNat = false := by
      cases q : anyZ (tyN A S a b 0) (A 1 0).toNat with
      | false => rfl
      | true =>
        obtain ⟨f, f0, f1, f2⟩ := anyZ_iff.mp q
        rw [tyN_eq, bt_0, Bool.and_false] at f2
        exact absurd f2 (by decide)
    have e2 : ghS A 0 (A 1 0).toNat = 0 := sZ_zero (fun i _ _ => by rw [bt_0]; rfl)
    rw [e1, e2] at this
    exact absurd this (by decide)
  · omega
theorem st_treaty {T : TH} (H : Inv T) {a b v : Int} (ha : zR a) (hb : zR b) (hv : zR v) : wp_X8_treaty a b v T (fun r1 T1 => wp_X9_treaty a b v T1 (fun r2 T2 => r1 = r2 ∧ zR r1 ∧ Inv T2)) := by
  obtain ⟨A, S, h⟩ := H
  have h0 := h
  obtain ⟨a1, a2, a3, a4, a5, a6, a7, a8, a9, a10, a11, a12⟩ := h
  have h23 := lOK_23 a1
  have n0 := a3.1
  have n1 := a3.2.1
  have p256 : (2 : Nat) ^ (A 1 0).toNat ≤ 256 := Nat.pow_le_pow_right (n := 2) (by decide) (show (A 1 0).toNat ≤ 8 by omega)
  have unk : ¬ ((0 ≤ a ∧ a < A 0 0) ∧ (0 ≤ b ∧ b < A 0 0) ∧ ¬ a = b) → wp_X9_treaty a b v T (fun r2 T2 => -1000000001 = r2 ∧ zR (-1000000001) ∧ Inv T2) := by
    intro hno
    unfold wp_X9_treaty
    refine sp9_isOne a3 a5 ha ?_
    refine dec_ft (fun _ => ⟨rfl, zRu, A, S, h0⟩) (fun q1 => ?_)
    refine sp9_isOne a3 a5 hb ?_
    refine dec_ft (fun _ => ⟨rfl, zRu, A, S, h0⟩) (fun q2 => ⟨ha, hb, fun q3 => absurd ⟨q1, q2, q3⟩ hno, fun _ => ⟨rfl, zRu, A, S, h0⟩⟩)
  unfold wp_X8_treaty
  refine sp_hasPerson a3 a6 ha ?_
  refine dec_ft (fun q => unk (fun z => q z.1)) (fun q1 => ?_)
  refine sp_hasPerson a3 a6 hb ?_
  refine dec_ft (fun q => unk (fun z => q z.2.1)) (fun q2 => ⟨ha, hb, fun q3 => ?_, fun q3 => unk (fun z => z.2.2 q3)⟩)
  have out : ¬ (0 ≤ v ∧ v ≤ 2) → wp_X9_treaty a b v T (fun r2 T2 => -1000000002 = r2 ∧ zR (-1000000002) ∧ Inv T2) := by
    intro hno
    unfold wp_X9_treaty
    refine sp9_isOne a3 a5 ha ?_
    refine dec_ft (fun q => absurd q1 q) (fun _ => ?_)
    refine sp9_isOne a3 a5 hb ?_
    refine dec_ft (fun q => absurd q2 q) (fun _ => ⟨ha, hb, fun _ => ?_, fun q => absurd q q3⟩)
    refine sp9_in hv (by unfold zR; omega) (by unfold zR; omega) ?_
    exact dec_tf (fun q => absurd q hno) (fun _ => ⟨rfl, zRo, A, S, h0⟩)
  refine ⟨hv, fun q => out (by omega), fun q4 => ⟨hv, fun q5 => ?_, fun q => out (by omega)⟩⟩
  refine sp_toForget a3 a6 a8 q1.1 q1.2 q2.1 q2.2 ?_
  refine sp_toForget a3 a6 a8 q2.1 q2.2 q1.1 q1.2 ?_
  unfold wp_X5_agree
  refine sp_findParts a3 h23 a6 (fun T1 c1 c2 => ?_)
  refine sp_findParts a3 h23 (a6.off (fun j i => c2 _ _ _ (by omega))) (fun T2 d1 d2 => ?_)
  have e1 : ∀ g, 0 ≤ g → g < 73 → loR (tyG A S a b g) 0 ((2 ^ (A 1 0).toNat : Nat) : Int) (T2 12 0 g) := fun g g0 g1 => by
    rw [d2 _ _ _ (by omega)]
    exact c1 g g0 g1
  have fr2 : ∀ o j i, ¬ o = 12 → T2 o j i = T o j i := fun o j i hn => by rw [d2 _ _ _ (by omega), c2 _ _ _ (by omega)]
  have rg1 : ∀ g, 0 ≤ g → g < 73 → -1 ≤ T2 12 0 g ∧ T2 12 0 g ≤ 256 := fun g g0 g1 => by
    rcases e1 g g0 g1 with ⟨b1, _⟩ | ⟨b1, b2, _⟩ <;> omega
  have rg2 : ∀ g, 0 ≤ g → g < 73 → -1 ≤ T2 12 1 g ∧ T2 12 1 g ≤ 256 := fun g g0 g1 => by
    rcases d1 g g0 g1 with ⟨b1, _⟩ | ⟨b1, b2, _⟩ <;> omega
  have inv2 : Inv T2 := ⟨A, S, h0.fr (fun o j i hs => fr2 _ _ _ (fun z => hs (by unfold scr; omega)))⟩
  have m2 : LandM T2 A := a5.off (fun j x hj => fr2 _ _ _ (by omega))
  have k2 : HeadM T2 26 0 S := a7.eq (fun _ _ _ => fr2 _ _ _ (by omega))
  have ref : ∀ G : Int, 0 ≤ G → G ≤ 72 → T2 12 0 G ≠ -1 → T2 12 1 G ≠ -1 → (∀ g, G < g → g < 73 → T2 12 0 g = -1 ∨ T2 12 1 g = -1) → ∀ r : Int, r = (if v = 1 then T2 12 0 G else if v = 2 then T2 12 1 G else G) → wp_X9_treaty a b v T2 (fun r2 T2 => r = r2 ∧ zR r ∧ Inv T2) := by
    intro G G0 G1 G2 G3 G4 r hr
    have rr : zR r := by
      have := rg1 G G0 (by omega)
      have := rg2 G G0 (by omega)
      rw [hr]
      unfold zR
      split
      · omega
      · split <;> omega
    unfold wp_X9_treaty
    refine sp9_isOne a3 m2 ha ?_
    refine dec_ft (fun q => absurd q1 q) (fun _ => ?_)
    refine sp9_isOne a3 m2 hb ?_
    refine dec_ft (fun q => absurd q2 q) (fun _ => ⟨ha, hb, fun _ => ?_, fun q => absurd q q3⟩)
    refine sp9_in hv (by unfold zR; omega) (by unfold zR; omega) ?_
    refine dec_tf (fun _ => ?_) (fun q => absurd (by omega) q)
    have key : ∀ (d : Nat) (g : Int), g = G + d → g < 73 → h_X9_treaty_40 a b v (fun r2 T2 => r = r2 ∧ zR r ∧ Inv T2) (d + 1) g T2 := by
      intro d
      induction d with
      | zero =>
        intro g hg g1
        have hg : g = G := by omega
        subst hg
        rw [h_X9_treaty_40]
        refine sp9_forgotten a3 m2 (by decide) a4 k2 q1.1 q1.2 hb (by unfold zR; omega) (fun r1 hr1 => ?_)
        have z1 := (e1 g G0 g1).uniq hr1
        have := rg1 g G0 g1
        refine ⟨by unfold zR; omega, fun q => absurd (z1.trans q) G2, fun _ => ?_⟩
        refine sp9_forgotten a3 m2 (by decide) a4 k2 q2.1 q2.2 ha (by unfold zR; omega) (fun r2 hr2 => ?_)
        have z2 := (d1 g G0 g1).uniq hr2
        have := rg2 g G0 g1
        refine ⟨by unfold zR; omega, fun _ => ⟨hv, fun w1 => ⟨hv, fun w2 => ?_, fun w2 => ?_⟩, fun w1 => ?_⟩, fun q => absurd (z2.trans q) G3⟩
        · refine sp9_forgotten a3 m2 (by decide) a4 k2 q2.1 q2.2 ha (by unfold zR; omega) (fun r3 hr3 => ⟨?_, rr, inv2⟩)
          rw [hr, if_neg w2, if_pos (by omega)]
          exact (d1 g G0 g1).uniq hr3
        · refine sp9_forgotten a3 m2 (by decide) a4 k2 q1.1 q1.2 hb (by unfold zR; omega) (fun r3 hr3 => ⟨?_, rr, inv2⟩)
          rw [hr, if_pos w2]
          exact (e1 g G0 g1).uniq hr3
        · refine ⟨?_, rr, inv2⟩
          rw [hr, if_neg (by omega), if_neg (by omega)]
      | succ d ih =>
        intro g hg g1
        have ihn := ih (g + (-1)) (by omega) (by omega)
        rw [h_X9_treaty_40]
        refine sp9_forgotten a3 m2 (by decide) a4 k2 q1.1 q1.2 hb (by unfold zR; omega) (fun r1 hr1 => ?_)
        have z1 := (e1 g (by omega) g1).uniq hr1
        have := rg1 g (by omega) g1
        refine ⟨by unfold zR; omega, fun _ => ihn, fun w => ?_⟩
        refine sp9_forgotten a3 m2 (by decide) a4 k2 q2.1 q2.2 ha (by unfold zR; omega) (fun r2 hr2 => ?_)
        have z2 := (d1 g (by omega) g1).uniq hr2
        have := rg2 g (by omega) g1
        have := G4 g (by omega) g1
        exact ⟨by unfold zR; omega, fun q => absurd (by omega) q, fun _ => ihn⟩
    exact ⟨(72 - G).toNat + 1, key (72 - G).toNat 72 (by omega) (by decide)⟩
  have fin : ∀ G : Int, 0 ≤ G → G ≤ 72 → T2 12 0 G ≠ -1 → T2 12 1 G ≠ -1 → (∀ g, G < g → g < 73 → T2 12 0 g = -1 ∨ T2 12 1 g = -1) → zR v ∧ (v = 1 → (0 ≤ G ∧ G < 73 ∧ wp_X9_treaty a b v T2 (fun r2 T3 => T2 12 0 G = r2 ∧ zR (T2 12 0 G) ∧ Inv T3))) ∧ (v = 2 → (0 ≤ G ∧ G < 73 ∧ wp_X9_treaty a b v T2 (fun r2 T3 => T2 12 1 G = r2 ∧ zR (T2 12 1 G) ∧ Inv T3))) ∧ (¬ v = 1 → ¬ v = 2 → (wp_X9_treaty a b v T2 (fun r2 T2 => G = r2 ∧ zR G ∧ Inv T2))) := by
    intro G G0 G1 G2 G3 G4
    refine ⟨hv, fun w => ⟨G0, by omega, ?_⟩, fun w => ⟨G0, by omega, ?_⟩, fun w1 w2 => ?_⟩
    · exact ref G G0 G1 G2 G3 G4 _ (by rw [if_pos w])
    · exact ref G G0 G1 G2 G3 G4 _ (by rw [if_neg (by omega), if_pos w])
    · exact ref G G0 G1 G2 G3 G4 _ (by rw [if_neg w1, if_neg w2])
  have key : ∀ (d : Nat) (g : Int), g = d → g < 73 → (∀ g', g < g' → g' < 73 → T2 12 0 g' = -1 ∨ T2 12 1 g' = -1) → h_X5_agree_22 (T 0 1 0).toNat (tyF A S a b) (tyF A S b a) (fun r10 T9 => zR v ∧ (v = 1 → (0 ≤ r10 ∧ r10 < 73 ∧ wp_X9_treaty a b v T9 (fun r2 T2 => T9 12 0 r10 = r2 ∧ zR (T9 12 0 r10) ∧ Inv T2))) ∧ (v = 2 → (0 ≤ r10 ∧ r10 < 73 ∧ wp_X9_treaty a b v T9 (fun r2 T2 => T9 12 1 r10 = r2 ∧ zR (T9 12 1 r10) ∧ Inv T2))) ∧ (¬ v = 1 → ¬ v = 2 → (wp_X9_treaty a b v T9 (fun r2 T2 => r10 = r2 ∧ zR r10 ∧ Inv T2)))) (d + 1) g T2 := by
    intro d
    induction d with
    | zero =>
      intro g hg g1 hno
      rw [h_X5_agree_22]
      refine ⟨by unfold zR; omega, fun _ => ?_, fun z => absurd (by omega) z⟩
      exact fin 0 (by decide) (by decide) (ty_0 a3 S a b (e1 0 (by decide) (by decide))) (ty_0 a3 S b a (d1 0 (by decide) (by decide))) (fun g' x y => hno g' (by omega) y)
    | succ d ih =>
      intro g hg g1 hno
      have r1 := rg1 g (by omega) g1
      have r2 := rg2 g (by omega) g1
      have ihn := fun (hz : T2 12 0 g = -1 ∨ T2 12 1 g = -1) => ih (g + (-1)) (by omega) (by omega) (fun g' x y => by
        by_cases e : g' = g
        · subst e
          exact hz
        · exact hno g' (by omega) y)
      rw [h_X5_agree_22]
      refine ⟨by unfold zR; omega, fun z => absurd z (by omega), fun _ => ⟨by omega, g1, by unfold zR; omega, fun q => ihn (Or.inl q), fun q => ⟨by omega, g1, by unfold zR; omega, fun q' => ihn (Or.inr q'), fun q' => ?_⟩⟩⟩
      exact fin g (by omega) (by omega) q q' hno
  exact ⟨72 + 1, key 72 72 (by decide) (by decide) (fun g' x y => by omega)⟩
