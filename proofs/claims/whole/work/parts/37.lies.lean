/-! lies by a weight -/
def hisS (A : LA) (p : Int) : Int := mkS (fun f => decide (A 6 f = p)) (A 1 0).toNat
theorem hisS_ok {A : LA} (hA : LAok A) (p : Int) : ms (A 1 0).toNat (hisS A p) ∧ ∀ f, 0 ≤ f → bt (hisS A p) f = decide (f < A 1 0 ∧ A 6 f = p) := by
  have n1 := hA.2.1
  obtain ⟨m1, m2⟩ := mkS_ok (fun f => decide (A 6 f = p)) (n := (A 1 0).toNat) (by omega)
  refine ⟨m1, fun f f0 => ?_⟩
  show bt (mkS _ _) f = _
  rw [m2 f f0]
  by_cases x1 : f < A 1 0
  · rw [decide_eq_true (show f < ((A 1 0).toNat : Int) by omega), Bool.true_and]
    exact decide_eq_decide.mpr ⟨fun z => ⟨x1, z⟩, fun z => z.2⟩
  · rw [decide_eq_false (show ¬ f < ((A 1 0).toNat : Int) by omega), Bool.false_and]
    exact (decide_eq_false (fun z => x1 z.1)).symm
theorem factsOf_eq {A : LA} {T : TH} {o : Nat} (hA : LAok A) (hC : LandC T o A) {p : Int} (p0 : 0 ≤ p) (p1 : p < A 0 0) : T o 11 p = hisS A p := by
  have n1 := hA.2.1
  obtain ⟨g1, g2⟩ := hC.2.2.2.2.2.2.2.2.1 p p0 p1
  obtain ⟨m1, m2⟩ := hisS_ok hA p
  refine ms_ext g1 (ms_up m1 (by omega)) (fun f f0 f1 => ?_)
  rw [g2 f f0 f1, m2 f f0]
theorem grS_R {A : LA} (hA : LAok A) (S : HA) (v : Int) : 0 ≤ grS A S v ∧ grS A S v ≤ 504 := by
  have n1 := hA.2.1
  have b : ∀ i : Int, 0 ≤ i → i < ((A 1 0).toNat : Int) → 0 ≤ A 7 i * hdS A S i ∧ A 7 i * hdS A S i ≤ 63 := fun i i0 i1 => by
    have h2 := hdS_R hA S i
    have h3 := (hA.2.2.2.2.2.2.1 i i0 (by omega)).2.1
    have e1 : 0 ≤ A 7 i * hdS A S i := Int.mul_nonneg (by omega) h2.1
    have e2 : A 7 i * hdS A S i ≤ 9 * 7 := Int.mul_le_mul h3.2 h2.2 h2.1 (by decide)
    omega
  refine ⟨sZ_nonneg (fun i i0 i1 => ?_), ?_⟩
  · have := b i i0 i1
    show 0 ≤ (if bt v i = true then A 7 i * hdS A S i else 0)
    split <;> omega
  · have := sZ_le (f := fun i => if bt v i = true then A 7 i * hdS A S i else 0) (g := fun _ => 63) (n := (A 1 0).toNat) (fun i i0 i1 => by
      have := b i i0 i1
      show (if bt v i = true then A 7 i * hdS A S i else 0) ≤ 63
      split <;> omega)
    rw [sZ_const] at this
    unfold grS
    omega
theorem sZ_lin (a b : Int → Int) : ∀ n : Nat, sZ (fun i => a i - 2 * b i) n = sZ a n - 2 * sZ b n
  | 0 => rfl
  | n + 1 => by
    rw [sZ, sZ, sZ, sZ_lin a b n]
    omega
theorem cnt_mono {G : Int → Bool} {n : Nat} : ∀ {m : Nat}, n ≤ m → sZ (fun x => zi (G x)) n ≤ sZ (fun x => zi (G x)) m
  | 0, h => by
    have : n = 0 := by omega
    subst this
    exact Int.le_refl _
  | m + 1, h => by
    by_cases e : n = m + 1
    · subst e
      exact Int.le_refl _
    · have := cnt_mono (G := G) (n := n) (m := m) (by omega)
      have := (zi_01 (G m)).1
      rw [sZ]
      omega
theorem cnt_pos {G : Int → Bool} {n m : Nat} {x : Int} (h1 : (n : Int) ≤ x) (h2 : x < m) (hx : G x = true) : sZ (fun x => zi (G x)) n + 1 ≤ sZ (fun x => zi (G x)) m := by
  have e : x = ((x.toNat : Nat) : Int) := by omega
  have a := cnt_mono (G := G) (n := n) (m := x.toNat) (by omega)
  have b := cnt_mono (G := G) (n := x.toNat + 1) (m := m) (by omega)
  rw [sZ, ← e, hx] at b
  have : zi true = 1 := rfl
  omega
theorem cnt_le {G : Int → Bool} (n : Nat) : 0 ≤ sZ (fun x => zi (G x)) n ∧ sZ (fun x => zi (G x)) n ≤ n := by
  refine ⟨sZ_nonneg (fun i _ _ => (zi_01 _).1), ?_⟩
  have := sZ_le (f := fun x => zi (G x)) (g := fun _ => 1) (n := n) (fun i _ _ => (zi_01 _).2)
  rw [sZ_const] at this
  omega
/-- the lowest of [i, n) that G takes; -1: none -/
def loR (G : Int → Bool) (i n r : Int) : Prop := (r = -1 ∧ ∀ x, i ≤ x → x < n → G x = false) ∨ (i ≤ r ∧ r < n ∧ G r = true ∧ ∀ x, i ≤ x → x < r → G x = false)
theorem loR.uniq {G : Int → Bool} {n r r' : Int} (h : loR G 0 n r) (h' : loR G 0 n r') : r = r' := by
  rcases h with ⟨a1, a2⟩ | ⟨a1, a2, a3, a4⟩ <;> rcases h' with ⟨b1, b2⟩ | ⟨b1, b2, b3, b4⟩
  · omega
  · rw [a2 r' b1 b2] at b3
    exact absurd b3 (by decide)
  · rw [b2 r a1 a2] at a3
    exact absurd a3 (by decide)
  · have z1 : ¬ r < r' := fun z => by
      rw [b4 r a1 z] at a3
      exact absurd a3 (by decide)
    have z2 : ¬ r' < r := fun z => by
      rw [a4 r' b1 z] at b3
      exact absurd b3 (by decide)
    omega
def liG (A : LA) (S : HA) (p w x : Int) : Bool := decide (zand x (zxor (hisS A p) (-1)) = 0 ∧ grS A S (hisS A p) - 2 * grS A S x = w)
/-- what lies answers: c how many, r the least, s what all have -/
def liA (c r s v : Int) : Int := if v = 0 then c else if v = 1 then r else if c = 0 then 0 else s
theorem sub_ms {n : Nat} {x h : Int} (hn : n ≤ 31) (hx : ms 31 x) (hh : ms n h) (e : zand x (zxor h (-1)) = 0) : ms n x ∧ x ≤ h ∧ ∀ k, bt x k = true → bt h k = true := by
  have h31 := ms_up hh hn
  obtain ⟨c1, c2⟩ := zandn_b hx h31
  have sub : ∀ k, bt x k = true → bt h k = true := fun k hk => by
    have := c2 k
    rw [e, bt_0, hk, Bool.true_and] at this
    cases q : bt h k with
    | true => rfl
    | false =>
      rw [q] at this
      exact absurd this (by decide)
  have m : ms n x := ms_of_bits hx (fun k hk => by
    cases q : x.toNat.testBit k with
    | false => rfl
    | true =>
      have := sub (k : Int) (by simpa [bt] using q)
      rw [bt_big hh (by omega)] at this
      exact absurd this (by decide))
  refine ⟨m, ?_, sub⟩
  have : x.toNat ≤ h.toNat := Nat.le_of_testBit (fun i hi => by
    have := sub (i : Int) (by simpa [bt] using hi)
    simpa [bt] using this)
  have := hh.1
  omega
/-- bits of what all that G takes have -/
def suR (G : Int → Bool) (i n s : Int) : Prop := ms 8 s ∧ ∀ k, 0 ≤ k → (bt s k = true ↔ ∀ x, i ≤ x → x < n → G x = true → bt x k = true)
theorem sp_lies8 {A : LA} {T : TH} {S : HA} {M p w v : Int} (hA : LAok A) (hC : LandC T (T 0 1 0).toNat A) (hS : HAok A S M) (hH : HeadC T 4 S) (p0 : 0 ≤ p) (p1 : p < A 0 0) (hw : zR w) (hv : 0 ≤ v ∧ v ≤ 2) {Q : Int → TH → Prop} (hq : ∀ c r s : Int, c = sZ (fun x => zi (liG A S p w x)) (2 ^ (A 1 0).toNat) → loR (liG A S p w) 0 ((2 ^ (A 1 0).toNat : Nat) : Int) r → (c ≠ 0 → suR (liG A S p w) 0 ((2 ^ (A 1 0).toNat : Nat) : Int) s) → Q (liA c r s v) T) : ∃ n, h_X8_lies_72 p w v Q n (hisS A p) (grS A S (hisS A p)) 0 (-1) (hisS A p) 0 T := by
  have n1 := hA.2.1
  obtain ⟨m1, m2⟩ := hisS_ok hA p
  have m8 : ms 8 (hisS A p) := ms_up m1 (by omega)
  have m31 : ms 31 (hisS A p) := ms_up m8 (by decide)
  have h255 : 0 ≤ hisS A p ∧ hisS A p < 256 := m8
  have hN : hisS A p < ((2 ^ (A 1 0).toNat : Nat) : Int) := by
    have := m1.2
    have e : ((2 ^ (A 1 0).toNat : Nat) : Int) = (2 : Int) ^ (A 1 0).toNat := by simp
    omega
  have big : ∀ x, hisS A p < x → x < ((2 ^ (A 1 0).toNat : Nat) : Int) → liG A S p w x = false := fun x x0 x1 => by
    refine decide_eq_false (fun z => ?_)
    have e : ((2 ^ (A 1 0).toNat : Nat) : Int) = (2 : Int) ^ (A 1 0).toNat := by simp
    have xm : ms (A 1 0).toNat x := ⟨by omega, by omega⟩
    have := (sub_ms (by omega) (ms_up xm (by omega)) m1 z.1).2.1
    omega
  have key : ∀ (d i : Nat) (r s : Int), (i : Int) + d = hisS A p + 1 → loR (liG A S p w) 0 i r → (ms 8 s ∧ ∀ k, 0 ≤ k → (bt s k = true ↔ (bt (hisS A p) k = true ∧ ∀ x, 0 ≤ x → x < (i : Int) → liG A S p w x = true → bt x k = true))) → h_X8_lies_72 p w v Q (d + 1) (hisS A p) (grS A S (hisS A p)) (sZ (fun x => zi (liG A S p w x)) i) r s i T := by
    intro d
    induction d with
    | zero =>
      intro i r s hi h1 h2
      have c1 := cnt_le (G := liG A S p w) i
      have ci : sZ (fun x => zi (liG A S p w x)) i = sZ (fun x => zi (liG A S p w x)) (2 ^ (A 1 0).toNat) := by
        refine (sZ_more (by omega) (fun x x0 x1 => ?_)).symm
        rw [big x (by omega) x1]
        rfl
      have fin := hq (sZ (fun x => zi (liG A S p w x)) i) r s ci (by
        rcases h1 with ⟨a1, a2⟩ | ⟨a1, a2, a3, a4⟩
        · refine Or.inl ⟨a1, fun x x0 x1 => ?_⟩
          by_cases e : x < i
          · exact a2 x x0 e
          · exact big x (by omega) x1
        · exact Or.inr ⟨a1, by omega, a3, a4⟩) (fun hc => by
        refine ⟨h2.1, fun k k0 => ⟨fun hb x x0 x1 hx => ?_, fun hb => (h2.2 k k0).mpr ⟨?_, fun x x0 x1 hx => hb x x0 (by omega) hx⟩⟩⟩
        · by_cases e : x < i
          · exact ((h2.2 k k0).mp hb).2 x x0 e hx
          · rw [big x (by omega) x1] at hx
            exact absurd hx (by decide)
        · rcases h1 with ⟨a1, a2⟩ | ⟨a1, a2, a3, a4⟩
          · exfalso
            apply hc
            refine sZ_zero (fun x x0 x1 => ?_)
            rw [a2 x x0 x1]
            rfl
          · have b1 := hb r a1 (by omega) a3
            have z := of_decide_eq_true a3
            have rm : ms 31 r := ⟨a1, by omega⟩
            exact (sub_ms (by omega) rm m1 z.1).2.2 k b1)
      unfold liA at fin
      rw [h_X8_lies_72]
      refine ⟨by unfold zR; omega, ms_R m31 (by decide), fun _ => ⟨by unfold zR; omega, fun q1 => ⟨by unfold zR; omega, fun q2 => ⟨by unfold zR; omega, fun q3 => ?_, fun q3 => ?_⟩, fun q2 => ?_⟩, fun q1 => ?_⟩, fun z => absurd (by omega) z⟩
      · rwa [if_neg q1, if_neg q2, if_neg q3] at fin
      · rwa [if_neg q1, if_neg q2, if_pos q3] at fin
      · rwa [if_neg q1, if_pos q2] at fin
      · rwa [if_pos q1] at fin
    | succ d ih =>
      intro i r s hi h1 h2
      have c1 := cnt_le (G := liG A S p w) i
      have im : ms 31 (i : Int) := ⟨by omega, by omega⟩
      have ihn := fun r s => ih (i + 1) r s (by omega)
      rw [sZ] at ihn
      have no : liG A S p w i = false → b_X8_lies_135 p w v Q (h_X8_lies_72 p w v Q (d + 1)) (hisS A p) (grS A S (hisS A p)) (sZ (fun x => zi (liG A S p w x)) i) r s i T := fun hz => by
        have := ihn r s (by
          rcases h1 with ⟨a1, a2⟩ | ⟨a1, a2, a3, a4⟩
          · refine Or.inl ⟨a1, fun x x0 x1 => ?_⟩
            by_cases e : x < i
            · exact a2 x x0 e
            · have : x = i := by omega
              subst this
              exact hz
          · exact Or.inr ⟨a1, by omega, a3, a4⟩) ⟨h2.1, fun k k0 => by
          rw [h2.2 k k0]
          refine and_congr Iff.rfl ⟨fun hh x x0 x1 hx => ?_, fun hh x x0 x1 hx => hh x x0 (by omega) hx⟩
          by_cases e : x < i
          · exact hh x x0 e hx
          · have : x = i := by omega
            subst this
            rw [hz] at hx
            exact absurd hx (by decide)⟩
        rw [hz, show zi false = 0 from rfl, Int.add_zero] at this
        exact this
      rw [h_X8_lies_72]
      refine ⟨by unfold zR; omega, ms_R m31 (by decide), fun z => absurd z (by omega), fun _ => ⟨zR_to _, fun z => no (decide_eq_false (fun q => z q.1)), fun z => ?_⟩⟩
      have g1 := grS_R hA S (hisS A p)
      have g2 := grS_R hA S (i : Int)
      refine sp_gramsOf hA hC hS hH im ⟨by unfold zR; omega, hw, fun z2 => no (decide_eq_false (fun q => z2 q.2)), fun z2 => ?_⟩
      have hz : liG A S p w i = true := decide_eq_true ⟨z, z2⟩
      have hsub := sub_ms (by omega) im m1 z
      have yes : ∀ r', loR (liG A S p w) 0 ((i + 1 : Nat) : Int) r' → b_X8_lies_123 p w v Q (h_X8_lies_72 p w v Q (d + 1)) (hisS A p) (grS A S (hisS A p)) (sZ (fun x => zi (liG A S p w x)) i) s i r' T := fun r' hr' => by
        show ∀ w1 : Int, w1 = _ → _
        rintro _ rfl
        obtain ⟨zz1, zz2⟩ := zand_b (ms_up h2.1 (by decide)) im
        have := ihn r' (zand s i) hr' ⟨and_ms h2.1 im (by decide), fun k k0 => by
          rw [zz2 k, Bool.and_eq_true, h2.2 k k0]
          refine ⟨fun hh => ⟨hh.1.1, fun x x0 x1 hx => ?_⟩, fun hh => ⟨⟨hh.1, fun x x0 x1 hx => hh.2 x x0 (by omega) hx⟩, hh.2 i (by omega) (by omega) hz⟩⟩
          by_cases e : x < i
          · exact hh.1.2 x x0 e hx
          · have : x = i := by omega
            subst this
            exact hh.2⟩
        rw [hz, show zi true = 1 from rfl] at this
        exact this
      refine ⟨by unfold zR; omega, fun z3 => yes r ?_, fun z3 => yes i ?_⟩
      · rcases h1 with ⟨a1, a2⟩ | ⟨a1, a2, a3, a4⟩
        · exfalso
          apply z3
          refine sZ_zero (fun x x0 x1 => ?_)
          rw [a2 x x0 x1]
          rfl
        · exact Or.inr ⟨a1, by omega, a3, a4⟩
      · rcases h1 with ⟨a1, a2⟩ | ⟨a1, a2, a3, a4⟩
        · exact Or.inr ⟨by omega, by omega, hz, a2⟩
        · have := cnt_pos (G := liG A S p w) (n := 0) (m := i) (by omega) a2 a3
          rw [sZ] at this
          omega
  refine ⟨(hisS A p + 1).toNat + 1, ?_⟩
  have := key (hisS A p + 1).toNat 0 (-1) (hisS A p) (by omega) (Or.inl ⟨rfl, fun x x0 x1 => by omega⟩) ⟨m8, fun k k0 => ⟨fun h => ⟨h, fun x x0 x1 => by omega⟩, fun h => h.1⟩⟩
  exact this
def liN (A : LA) (p x f : Int) : Bool := (!decide (A 6 f = p)) && bt x f
theorem liN_eq (A : LA) (p x f : Int) : liN A p x f = ((!decide (A 6 f = p)) && bt x f) := rfl
def liV (A : LA) (S : HA) (p x f : Int) : Int := if bt x f = true then -vlS A S p f else vlS A S p f
theorem li_iff {A : LA} {S : HA} {p w x : Int} (hA : LAok A) (hx : ms (A 1 0).toNat x) : liG A S p w x = (!anyZ (liN A p x) (A 1 0).toNat && decide (sZ (liV A S p x) (A 1 0).toNat = w)) := by
  have n1 := hA.2.1
  obtain ⟨m1, m2⟩ := hisS_ok hA p
  have x31 := ms_up hx (show (A 1 0).toNat ≤ 31 by omega)
  obtain ⟨c1, c2⟩ := zandn_b x31 (ms_up m1 (show (A 1 0).toNat ≤ 31 by omega))
  by_cases e : zand x (zxor (hisS A p) (-1)) = 0
  · obtain ⟨_, _, sub⟩ := sub_ms (by omega) x31 m1 e
    have e1 : anyZ (liN A p x) (A 1 0).toNat = false := by
      cases q : anyZ (liN A p x) (A 1 0).toNat with
      | false => rfl
      | true =>
        obtain ⟨f, f0, f1, f2⟩ := anyZ_iff.mp q
        unfold liN at f2
        rw [Bool.and_eq_true] at f2
        have := sub f f2.2
        rw [m2 f f0] at this
        have := (of_decide_eq_true this).2
        rw [decide_eq_true this] at f2
        exact absurd f2.1 (by decide)
    have e2 : sZ (liV A S p x) (A 1 0).toNat = grS A S (hisS A p) - 2 * grS A S x := by
      unfold grS
      rw [← sZ_lin]
      refine sZ_congr (fun f f0 f1 => ?_)
      unfold liV vlS
      rw [m2 f f0]
      by_cases a : A 6 f = p
      · rw [decide_eq_true (show f < A 1 0 ∧ A 6 f = p from ⟨by omega, a⟩), if_pos a, if_pos rfl]
        split <;> omega
      · rw [decide_eq_false (show ¬ (f < A 1 0 ∧ A 6 f = p) from fun z => a z.2), if_neg a]
        have : ¬ bt x f = true := fun z => by
          have := sub f z
          rw [m2 f f0] at this
          exact a (of_decide_eq_true this).2
        rw [if_neg this, if_neg this]
        rfl
    rw [e1, e2]
    show decide _ = _
    rw [Bool.not_false, Bool.true_and]
    exact decide_eq_decide.mpr ⟨fun z => z.2, fun z => ⟨e, z⟩⟩
  · have e1 : anyZ (liN A p x) (A 1 0).toNat = true := by
      cases q : anyZ (liN A p x) (A 1 0).toNat with
      | true => rfl
      | false =>
        exfalso
        apply e
        refine ms_ext c1 (ms_0 31) (fun k k0 k1 => ?_)
        rw [c2 k, bt_0]
        cases r : bt x k with
        | false => rfl
        | true =>
          have kn : k < A 1 0 := by
            by_cases z : k < A 1 0
            · exact z
            · rw [bt_big hx (by omega)] at r
              exact absurd r (by decide)
          rw [m2 k k0]
          by_cases a : A 6 k = p
          · rw [decide_eq_true (show k < A 1 0 ∧ A 6 k = p from ⟨kn, a⟩)]
            rfl
          · have : anyZ (liN A p x) (A 1 0).toNat = true := anyZ_iff.mpr ⟨k, k0, by omega, by unfold liN; rw [r, decide_eq_false a]; rfl⟩
            rw [q] at this
            exact absurd this (by decide)
    rw [e1]
    show decide _ = _
    rw [decide_eq_false (fun z => e z.1)]
    rfl
theorem sp9_lies1 {A : LA} {T : TH} {S : HA} {M p w v : Int} (hA : LAok A) (hL : LandM T A) (hM : M ≤ 1000000) (hS : HAok A S M) (hH : HeadM T 26 0 S) (hp : zR p) (hw : zR w) {Q : Int → TH → Prop} {K : Int → Int → Int → Int → TH → Prop} {c r s x : Int} (hx : ms (A 1 0).toNat x) (hc : zR c) (h1 : liG A S p w x = false → K c r s (x + (-1)) T) (h2 : liG A S p w x = true → K (c + 1) x (if c = 0 then x else zand s x) (x + (-1)) T) : ∃ n, h_X9_lies_69 p w v Q K n c r s x 0 true 0 T := by
  have n1 := hA.2.1
  have x31 := ms_up hx (show (A 1 0).toNat ≤ 31 by omega)
  have key : ∀ (d i : Nat), i + d = (A 1 0).toNat → h_X9_lies_69 p w v Q K (d + 1) c r s x (sZ (liV A S p x) i) (!anyZ (liN A p x) i) i T := by
    intro d
    induction d with
    | zero =>
      intro i hi
      have : i = (A 1 0).toNat := by omega
      subst this
      rw [li_iff hA hx] at h1 h2
      have sb := sZ_bound (g := liV A S p x) (c := 63) (n := (A 1 0).toNat) (fun f f0 f1 => by
        have := vlS_R hA S p f0 (by omega : f < A 1 0)
        unfold liV
        split <;> omega)
      rw [h_X9_lies_69, hL.2.1]
      refine ⟨by unfold zR; omega, by unfold zR; omega, fun _ => ⟨fun z => ?_, fun z => ⟨by unfold zR; omega, hw, fun z2 => ?_, fun z2 => ?_⟩⟩, fun z => absurd (by omega) z⟩
      · exact h1 (by rw [z]; rfl)
      · exact h1 (by rw [z, decide_eq_false z2]; rfl)
      · have h2 := h2 (by rw [z, decide_eq_true z2]; rfl)
        refine ⟨hc, fun z3 => ?_, fun z3 => ?_⟩
        · rw [if_neg z3] at h2
          exact h2
        · rw [if_pos z3] at h2
          exact h2
    | succ d ih =>
      intro i hi
      have ihn := ih (i + 1) (by omega)
      rw [sZ, anyZ] at ihn
      have fin : ∀ y : Bool, y = (!(anyZ (liN A p x) i || liN A p x i)) → b_X9_lies_141 p w v Q K (h_X9_lies_69 p w v Q K (d + 1)) c r s x (sZ (liV A S p x) i) i (vlS A S p i) y T := by
        rintro _ rfl
        unfold b_X9_lies_141
        refine sp9_has x31 (by omega) (by omega) ⟨fun z => ?_, fun z => ?_⟩
        · show ∀ w1 : Int, w1 = _ → _
          rintro _ rfl
          have e : liV A S p x i = vlS A S p i := by
            unfold liV
            rw [if_neg (by rw [z]; decide)]
          rw [e] at ihn
          exact ihn
        · show ∀ w1 : Int, w1 = _ → _
          rintro _ rfl
          have e : liV A S p x i = -vlS A S p i := by
            unfold liV
            rw [if_pos z]
          rw [e] at ihn
          exact ihn
      have mid : ∀ u : Int, u = vlS A S p i → b_X9_lies_109 p w v Q K (h_X9_lies_69 p w v Q K (d + 1)) c r s x (sZ (liV A S p x) i) (!anyZ (liN A p x) i) i u T := by
        rintro _ rfl
        refine ⟨fun z => fin false ?_, fun z => ?_⟩
        · rw [Bool.not_eq_false'] at z
          rw [z]
          rfl
        · rw [Bool.not_eq_true'] at z
          refine sp9_personOf hA hL (by omega) (by omega) ⟨?_, hp, fun q => fin true ?_, fun q => ?_⟩
          · have := (hA.2.2.2.2.2.2.1 i (by omega) (by omega)).1
            have := hA.1
            unfold zR
            omega
          · rw [z, liN_eq, decide_eq_true q]
            rfl
          · refine sp9_has x31 (by omega) (by omega) ⟨fun z2 => fin false ?_, fun z2 => fin true ?_⟩
            · rw [z, liN_eq, decide_eq_false q, z2]
              rfl
            · rw [z, liN_eq, z2, Bool.and_false]
              rfl
      rw [h_X9_lies_69, hL.2.1]
      refine ⟨by unfold zR; omega, by unfold zR; omega, fun z => absurd z (by omega), fun _ => ?_⟩
      refine sp9_personOf hA hL (by omega) (by omega) ⟨?_, hp, fun q => mid 0 ?_, fun q => ?_⟩
      · have := (hA.2.2.2.2.2.2.1 i (by omega) (by omega)).1
        have := hA.1
        unfold zR
        omega
      · unfold vlS
        rw [if_neg q]
      · refine sp9_gramsOf hA hL (by omega) (by omega) ?_
        refine sp9_headsOf hA hL hM hS hH (by omega) (by omega) ?_
        refine mid _ ?_
        unfold vlS
        rw [if_pos q]
  exact ⟨(A 1 0).toNat + 1, key (A 1 0).toNat 0 (by omega)⟩
theorem st_lies {T : TH} (H : Inv T) {p w v : Int} (hp : zR p) (hw : zR w) (hv : zR v) : wp_X8_lies p w v T (fun r1 T1 => wp_X9_lies p w v T1 (fun r2 T2 => r1 = r2 ∧ zR r1 ∧ Inv T2)) := by
  obtain ⟨A, S, h⟩ := H
  have h0 := h
  obtain ⟨a1, a2, a3, a4, a5, a6, a7, a8, a9, a10, a11, a12⟩ := h
  have n0 := a3.1
  have n1 := a3.2.1
  have out : 0 ≤ p ∧ p < A 0 0 → ¬ ((-999 ≤ w ∧ w ≤ 999) ∧ (0 ≤ v ∧ v ≤ 2)) → wp_X9_lies p w v T (fun r2 T2 => -1000000002 = r2 ∧ zR (-1000000002) ∧ Inv T2) := by
    intro hy hno
    unfold wp_X9_lies
    refine sp9_isOne a3 a5 hp ?_
    refine dec_tf (fun _ => ?_) (fun q => absurd hy q)
    refine sp9_in hw (by unfold zR; omega) (by unfold zR; omega) ?_
    refine dec_ft (fun _ => ⟨rfl, zRo, A, S, h0⟩) (fun q => ?_)
    refine sp9_in hv (by unfold zR; omega) (by unfold zR; omega) ?_
    exact dec_tf (fun q2 => absurd ⟨q, q2⟩ hno) (fun _ => ⟨rfl, zRo, A, S, h0⟩)
  unfold wp_X8_lies
  refine sp_hasPerson a3 a6 hp ?_
  refine dec_tf (fun hy => ?_) (fun hno => ?_)
  rotate_left
  · unfold wp_X9_lies
    refine sp9_isOne a3 a5 hp ?_
    exact dec_tf (fun q => absurd q hno) (fun _ => ⟨rfl, zRu, A, S, h0⟩)
  refine sp_canWeigh hw ?_
  refine dec_ft (fun q => out hy (fun z => q z.1)) (fun qw => ⟨hv, fun q => out hy (by omega), fun q => ⟨hv, fun q2 => ?_, fun q2 => out hy (by omega)⟩⟩)
  have qv : 0 ≤ v ∧ v ≤ 2 := by omega
  refine ⟨hy.1, by omega, ?_⟩
  rintro _ rfl
  rw [factsOf_eq a3 a6 hy.1 hy.2]
  obtain ⟨m1, m2⟩ := hisS_ok a3 p
  refine sp_gramsOf a3 a6 a4 a8 (ms_up m1 (by omega)) ?_
  refine sp_lies8 a3 a6 a4 a8 hy.1 hy.2 hw qv (fun c r s hc hr hs => ?_)
  have e2 : ((2 ^ (A 1 0).toNat : Nat) : Int) = (2 : Int) ^ (A 1 0).toNat := by simp
  have p256 : (2 : Nat) ^ (A 1 0).toNat ≤ 256 := Nat.pow_le_pow_right (n := 2) (by decide) (show (A 1 0).toNat ≤ 8 by omega)
  have cl := cnt_le (G := liG A S p w) (2 ^ (A 1 0).toNat)
  have rr : zR (liA c r s v) := by
    unfold liA zR
    have r1 : -1 ≤ r ∧ r ≤ 256 := by
      rcases hr with ⟨b1, _⟩ | ⟨b1, b2, _⟩ <;> omega
    split
    · omega
    · split
      · omega
      · split
        · decide
        · rename_i z
          have := (hs z).1
          have t1 := this.1
          have t2 : s < 256 := this.2
          omega
  have nf : ∀ x, x = (2 : Int) ^ (A 1 0).toNat - 1 → ∃ n, h_X9_lies_55 p w v (fun r2 T2 => liA c r s v = r2 ∧ zR (liA c r s v) ∧ Inv T2) n 0 (-1) 0 x T := by
    have key : ∀ (i : Nat) (c' r' s' : Int), i ≤ 2 ^ (A 1 0).toNat → c' = sZ (fun x => zi (liG A S p w x)) (2 ^ (A 1 0).toNat) - sZ (fun x => zi (liG A S p w x)) i → loR (liG A S p w) i ((2 ^ (A 1 0).toNat : Nat) : Int) r' → (c' = 0 → s' = 0) → (c' ≠ 0 → suR (liG A S p w) i ((2 ^ (A 1 0).toNat : Nat) : Int) s') → h_X9_lies_55 p w v (fun r2 T2 => liA c r s v = r2 ∧ zR (liA c r s v) ∧ Inv T2) (i + 1) c' r' s' ((i : Int) - 1) T := by
      intro i
      induction i with
      | zero =>
        intro c' r' s' hi k1 k2 k3 k4
        rw [sZ, Int.sub_zero, ← hc] at k1
        subst k1
        have er : r = r' := hr.uniq k2
        rw [h_X9_lies_55]
        refine ⟨by unfold zR; omega, fun _ => ⟨hv, fun q1 => ⟨hv, fun q2 => ⟨?_, rr, A, S, h0⟩, fun q2 => ⟨?_, rr, A, S, h0⟩⟩, fun q1 => ⟨?_, rr, A, S, h0⟩⟩, fun z => absurd (by omega) z⟩
        · unfold liA
          rw [if_neg q1, if_neg q2]
          by_cases e : c' = 0
          · rw [if_pos e, k3 e]
          · rw [if_neg e]
            have x1 := hs e
            have x2 := k4 e
            refine ms_ext x1.1 x2.1 (fun k j0 j1 => ?_)
            rw [Bool.eq_iff_iff, x1.2 k j0, x2.2 k j0]
            rfl
        · unfold liA
          rw [if_neg q1, if_pos q2]
          exact er
        · unfold liA
          rw [if_pos q1]
      | succ i ih =>
        intro c' r' s' hi k1 k2 k3 k4
        have ii : (((i + 1 : Nat) : Int) - 1) = (i : Int) := by omega
        have mono := cnt_mono (G := liG A S p w) (n := i + 1) (m := 2 ^ (A 1 0).toNat) hi
        have cl1 := cnt_le (G := liG A S p w) (i + 1)
        rw [ii, h_X9_lies_55]
        refine ⟨by unfold zR; omega, fun z => absurd z (by omega), fun _ => ?_⟩
        have im : ms (A 1 0).toNat (i : Int) := ⟨by omega, by omega⟩
        rw [sZ] at k1 mono cl1
        refine sp9_lies1 a3 a5 (by decide) a4 a7 hp hw im (by unfold zR; omega) (fun hz => ?_) (fun hz => ?_)
        · rw [hz, show zi false = 0 from rfl, Int.add_zero] at k1
          refine ih c' r' s' (by omega) k1 ?_ k3 (fun z => ⟨(k4 z).1, fun k j0 => ?_⟩)
          · rcases k2 with ⟨b1, b2⟩ | ⟨b1, b2, b3, b4⟩
            · refine Or.inl ⟨b1, fun x x0 x1 => ?_⟩
              by_cases e : x = i
              · subst e
                exact hz
              · exact b2 x (by omega) x1
            · refine Or.inr ⟨by omega, b2, b3, fun x x0 x1 => ?_⟩
              by_cases e : x = i
              · subst e
                exact hz
              · exact b4 x (by omega) x1
          · rw [(k4 z).2 k j0]
            refine ⟨fun hh x x0 x1 hx => ?_, fun hh x x0 x1 hx => hh x (by omega) x1 hx⟩
            by_cases e : x = i
            · subst e
              rw [hz] at hx
              exact absurd hx (by decide)
            · exact hh x (by omega) x1 hx
        · rw [hz, show zi true = 1 from rfl] at k1 mono
          have i8 : ms 8 (i : Int) := ms_up im (by omega)
          refine ih (c' + 1) i _ (by omega) (by omega) (Or.inr ⟨by omega, by omega, hz, fun x x0 x1 => by omega⟩) (fun z => by omega) (fun _ => ?_)
          by_cases e : c' = 0
          · rw [if_pos e]
            refine ⟨i8, fun k j0 => ⟨fun hb x x0 x1 hx => ?_, fun hh => hh i (by omega) (by omega) hz⟩⟩
            by_cases ex : x = i
            · subst ex
              exact hb
            · have := cnt_pos (G := liG A S p w) (n := i + 1) (m := 2 ^ (A 1 0).toNat) (x := x) (by omega) x1 hx
              rw [sZ, hz, show zi true = 1 from rfl] at this
              omega
          · rw [if_neg e]
            obtain ⟨y1, y2⟩ := k4 e
            obtain ⟨zz1, zz2⟩ := zand_b (ms_up y1 (by decide)) (ms_up i8 (by decide))
            refine ⟨and_ms y1 (ms_up i8 (by decide)) (by decide), fun k j0 => ?_⟩
            rw [zz2 k, Bool.and_eq_true, y2 k j0]
            refine ⟨fun hh x x0 x1 hx => ?_, fun hh => ⟨fun x x0 x1 hx => hh x (by omega) x1 hx, hh i (by omega) (by omega) hz⟩⟩
            by_cases ex : x = i
            · subst ex
              exact hh.2
            · exact hh.1 x (by omega) x1 hx
    rintro _ rfl
    have := key (2 ^ (A 1 0).toNat) 0 (-1) 0 (Nat.le_refl _) (by omega) (Or.inl ⟨rfl, fun x x0 x1 => by omega⟩) (fun _ => rfl) (fun z => absurd rfl z)
    rw [e2] at this
    exact ⟨_, this⟩
  unfold wp_X9_lies
  refine sp9_isOne a3 a5 hp ?_
  refine dec_tf (fun _ => ?_) (fun q => absurd hy q)
  refine sp9_in hw (by unfold zR; omega) (by unfold zR; omega) ?_
  refine dec_ft (fun q => absurd qw q) (fun _ => ?_)
  refine sp9_in hv (by unfold zR; omega) (by unfold zR; omega) ?_
  refine dec_tf (fun _ => ?_) (fun q => absurd qv q)
  rw [a5.2.1, evf_eq a3]
  exact nf
