/-! the class's small methods -/
def pcn (a : Int) (n : Nat) : Int := sZ (fun k => zi (bt a k)) n
def bcF (v0 : Int) : Int :=
  let w1 := v0 - (zand (zushr v0 1) 1431655765)
  let w2 := (zand w1 858993459) + (zand (zushr w1 2) 858993459)
  let w3 := zand (w2 + (zushr w2 4)) 252645135
  let w4 := w3 + (zushr w3 8)
  let w5 := w4 + (zushr w4 16)
  zand w5 63
set_option maxRecDepth 100000 in
theorem bc_two : ∀ a : Nat, a < 64 → ∀ b : Nat, b < 64 → bcF ((64 * a + b : Nat) : Int) = pcn ((64 * a + b : Nat) : Int) 12 := by decide +kernel
theorem bc_all (n : Nat) (h : n < 4096) : bcF (n : Int) = pcn (n : Int) 12 := by
  have := bc_two (n / 64) (by omega) (n % 64) (by omega)
  rwa [show 64 * (n / 64) + n % 64 = n by omega] at this
theorem sp_bitCount {v : Int} {T : TH} {Q : Int → TH → Prop} (h : ms 12 v) (hq : Q (pcn v 12) T) : wp_J6_bitCount_0f7a4 v T Q := by
  have e := bc_all v.toNat (ms_nat h)
  rw [Int.toNat_of_nonneg h.1] at e
  unfold wp_J6_bitCount_0f7a4
  rintro _ rfl _ rfl _ rfl _ rfl _ rfl
  rw [← e] at hq
  exact hq
theorem pcn_n {a : Int} {n m : Nat} (h : ms n a) (hm : n ≤ m) : pcn a m = pcn a n :=
  sZ_more hm (fun i h0 _ => by
    show zi (bt a i) = 0
    rw [bt_big h h0]
    rfl)
theorem sp_hasPerson {A : LA} {T : TH} {o : Nat} (hA : LAok A) (hC : LandC T o A) {p : Int} {Q : Bool → TH → Prop} (hp : zR p) (hq : Q (decide (0 ≤ p ∧ p < A 0 0)) T) : wp_X3_hasPerson o p T Q := by
  unfold wp_X3_hasPerson
  rw [hC.1]
  have := hA.1
  refine ⟨hp, fun h => ?_, fun h => ⟨hp, by unfold zR; omega, fun h' => ?_, fun h' => ?_⟩⟩
  · rwa [decide_eq_false (by omega)] at hq
  · rwa [decide_eq_false (by omega)] at hq
  · rwa [decide_eq_true (by omega)] at hq
theorem sp_hasFact {A : LA} {T : TH} {o : Nat} (hA : LAok A) (hC : LandC T o A) {f : Int} {Q : Bool → TH → Prop} (hp : zR f) (hq : Q (decide (0 ≤ f ∧ f < A 1 0)) T) : wp_X3_hasFact o f T Q := by
  unfold wp_X3_hasFact
  rw [hC.2.1]
  have := hA.2.1
  refine ⟨hp, fun h => ?_, fun h => ⟨hp, by unfold zR; omega, fun h' => ?_, fun h' => ?_⟩⟩
  · rwa [decide_eq_false (by omega)] at hq
  · rwa [decide_eq_false (by omega)] at hq
  · rwa [decide_eq_true (by omega)] at hq
theorem sp_hasBridge {A : LA} {T : TH} {o : Nat} (hA : LAok A) (hC : LandC T o A) {b : Int} {Q : Bool → TH → Prop} (hp : zR b) (hq : Q (decide (0 ≤ b ∧ b < A 3 0)) T) : wp_X3_hasBridge o b T Q := by
  unfold wp_X3_hasBridge
  rw [hC.2.2.2.1]
  have := hA.2.2.2.1
  refine ⟨hp, fun h => ?_, fun h => ⟨hp, by unfold zR; omega, fun h' => ?_, fun h' => ?_⟩⟩
  · rwa [decide_eq_false (by omega)] at hq
  · rwa [decide_eq_false (by omega)] at hq
  · rwa [decide_eq_true (by omega)] at hq
/-- a bit that is asked for against 0 -/
theorem bit_ne {s k : Int} (hs : ms 31 s) (h0 : 0 ≤ k) (h1 : k < 31) {X Y : Prop} (hx : bt s k = false → X) (hy : bt s k = true → Y) : zR (zand (zshr s k) 1) ∧ ((zand (zshr s k) 1) = 0 → X) ∧ (¬ ((zand (zshr s k) 1) = 0) → Y) := by
  rw [bit_at hs h0 h1]
  refine ⟨zi_R _, fun h => hx ((zi_ne _).mp h), fun h => hy ?_⟩
  cases e : bt s k with
  | true => rfl
  | false => rw [e] at h; exact absurd rfl h
theorem bit_en {s k : Int} (hs : ms 31 s) (h0 : 0 ≤ k) (h1 : k < 31) {X Y : Prop} (hx : bt s k = false → X) (hy : bt s k = true → Y) : zR (zand (zshr s k) 1) ∧ (¬ (zand (zshr s k) 1) = 0 → Y) ∧ ((zand (zshr s k) 1) = 0 → X) := by
  obtain ⟨a, b, c⟩ := bit_ne hs h0 h1 hx hy
  exact ⟨a, c, b⟩
theorem sp_isLie {A : LA} {T : TH} {o : Nat} (hA : LAok A) (hC : LandC T o A) {f : Int} {Q : Bool → TH → Prop} (f0 : 0 ≤ f) (f1 : f < A 1 0) (hq : Q (decide (A 8 f = 1)) T) : wp_X3_isLie o f T Q := by
  have a1 := hA.2.1
  obtain ⟨c1, c2⟩ := hC.2.2.2.2.2.2.1
  have e := c2 f f0 f1
  unfold wp_X3_isLie
  refine bit_ne (ms_up c1 (by decide)) f0 (by omega) (fun h => ?_) (fun h => ?_)
  · rwa [← e, h] at hq
  · rwa [← e, h] at hq
theorem sp_isQuiet {A : LA} {T : TH} {o : Nat} (hA : LAok A) (hC : LandC T o A) {p : Int} {Q : Bool → TH → Prop} (p0 : 0 ≤ p) (p1 : p < 7) (hq : Q (bt (A 5 0) p) T) : wp_X3_isQuiet o p T Q := by
  unfold wp_X3_isQuiet
  rw [hC.2.2.2.2.2.1]
  refine bit_ne (ms_up hA.2.2.2.2.2.1 (by decide)) p0 (by omega) (fun h => ?_) (fun h => ?_)
  · rwa [h] at hq
  · rwa [h] at hq
theorem sp_knows {T : TH} {S : HA} {o : Nat} (hH : HeadC T o S) {p f : Int} {Q : Bool → TH → Prop} (p0 : 0 ≤ p) (p1 : p < 7) (f0 : 0 ≤ f) (f1 : f < 8) (hq : Q (decide (S 0 p f ≠ -1)) T) : wp_X2_knows o p f T Q := by
  obtain ⟨c1, c2⟩ := hH.2.2.1 f f0 f1
  have e := c2 p p0 p1
  unfold wp_X2_knows
  refine ⟨f0, f1, bit_ne (ms_up c1 (by decide)) p0 (by omega) (fun h => ?_) (fun h => ?_)⟩
  · rwa [← e, h] at hq
  · rwa [← e, h] at hq
theorem sp_heardAt {T : TH} {S : HA} {o : Nat} (hH : HeadC T o S) {p f : Int} {Q : Int → TH → Prop} (p0 : 0 ≤ p) (p1 : p < 7) (f0 : 0 ≤ f) (f1 : f < 8) (hk : S 0 p f ≠ -1) (hq : Q (S 0 p f) T) : wp_X2_heardAt o p f T Q := by
  unfold wp_X2_heardAt
  rw [hH.2.2.2 p f p0 p1 f0 f1 hk]
  exact ⟨by omega, by omega, hq⟩
theorem sp_headsOf {A : LA} {T : TH} {S : HA} {o l : Nat} {M : Int} (hA : LAok A) (hC : LandC T l A) (hS : HAok A S M) (hH : HeadC T o S) {f : Int} {Q : Int → TH → Prop} (f0 : 0 ≤ f) (f1 : f < A 1 0) (hq : Q (hdS A S f) T) : wp_X2_headsOf o l f T Q := by
  have a0 := hA.1
  have a1 := hA.2.1
  have a6 := (hA.2.2.2.2.2.2.1 f f0 f1).1
  obtain ⟨c1, c2⟩ := hH.2.2.1 f f0 (by omega)
  have ow := (hC.2.2.2.2.2.2.2.1 f f0 f1).1
  unfold wp_X2_headsOf
  refine ⟨f0, by omega, f0, by omega, ?_⟩
  rw [ow]
  obtain ⟨t1, t2⟩ := take_b (k := A 6 f) c1 (by omega) (by omega) (by decide)
  refine sp_bitCount (ms_up t1 (by decide)) ?_
  have e : pcn (zand (T o 2 f) (zxor (zshl 1 (A 6 f)) (-1))) 12 = hdS A S f := by
    have m1 : ms 7 (zand (T o 2 f) (zxor (zshl 1 (A 6 f)) (-1))) := t1
    rw [pcn_n m1 (by decide)]
    unfold pcn hdS
    have e1 : sZ (fun k => zi (bt (zand (T o 2 f) (zxor (zshl 1 (A 6 f)) (-1))) k)) 7 = sZ (fun p => zi (decide (p ≠ A 6 f ∧ S 0 p f ≠ -1))) 7 := by
      refine sZ_congr (fun i i0 i1 => ?_)
      show zi _ = zi _
      rw [t2 i i0, c2 i i0 i1]
      congr 1
      by_cases q1 : i = A 6 f <;> by_cases q2 : S 0 i f = -1 <;> simp [q1, q2]
    rw [e1]
    refine sZ_more (by omega) (fun i i0 i1 => ?_)
    show zi _ = 0
    have := hS.2.2 i f (by omega) i1 f0 (by omega)
    rw [decide_eq_false (by omega)]
    rfl
  rw [e]
  exact hq
def grS (A : LA) (S : HA) (set : Int) : Int := sZ (fun f => if bt set f = true then A 7 f * hdS A S f else 0) (A 1 0).toNat
theorem sp_gramsOf {A : LA} {T : TH} {S : HA} {o l : Nat} {M : Int} (hA : LAok A) (hC : LandC T l A) (hS : HAok A S M) (hH : HeadC T o S) {set : Int} {Q : Int → TH → Prop} (hs : ms 31 set) (hq : Q (grS A S set) T) : wp_X2_gramsOf o l set T Q := by
  unfold wp_X2_gramsOf
  have a1 := hA.2.1
  refine ⟨(A 1 0).toNat + 1, ?_⟩
  have key : ∀ (d i : Nat), i + d = (A 1 0).toNat → h_X2_gramsOf_5 o l set Q (d + 1) (sZ (fun f => if bt set f = true then A 7 f * hdS A S f else 0) i) i T := by
    intro d
    induction d with
    | zero =>
      intro i hi
      rw [h_X2_gramsOf_5, hC.2.1]
      refine ⟨by unfold zR; omega, by unfold zR; omega, fun _ => ?_, fun h => absurd (by omega) h⟩
      have : i = (A 1 0).toNat := by omega
      subst this
      exact hq
    | succ d ih =>
      intro i hi
      have ihn := ih (i + 1) (by omega)
      rw [sZ] at ihn
      rw [h_X2_gramsOf_5, hC.2.1]
      refine ⟨by unfold zR; omega, by unfold zR; omega, fun h => absurd h (by omega), fun _ => ?_⟩
      refine bit_ne hs (by omega) (by omega) (fun h => ?_) (fun h => ?_)
      · rw [if_neg (by rw [h]; decide), Int.add_zero] at ihn
        exact ihn
      · refine ⟨by omega, by omega, ?_⟩
        refine sp_headsOf hA hC hS hH (by omega) (by omega) ?_
        rintro _ rfl
        rw [if_pos h] at ihn
        rw [(hC.2.2.2.2.2.2.2.1 i (by omega) (by omega)).2]
        exact ihn
  exact key (A 1 0).toNat 0 (by omega)
theorem sp_load {A : LA} {T : TH} {S : HA} {o l : Nat} {M : Int} (hA : LAok A) (hC : LandC T l A) (hS : HAok A S M) (hH : HeadC T o S) {p : Int} {Q : Int → TH → Prop} (p0 : 0 ≤ p) (p1 : p < A 0 0) (hq : Q (wtS A S p) T) : wp_X2_load o l p T Q := by
  have a0 := hA.1
  have a1 := hA.2.1
  obtain ⟨c1, c2⟩ := hC.2.2.2.2.2.2.1
  obtain ⟨g1, g2⟩ := hC.2.2.2.2.2.2.2.2.1 p p0 p1
  unfold wp_X2_load
  refine ⟨p0, by omega, ?_⟩
  rintro _ rfl
  obtain ⟨t1, t2⟩ := zandn_b (ms_up g1 (by decide)) (ms_up c1 (m := 31) (by decide))
  obtain ⟨u1, u2⟩ := zand_b (ms_up g1 (by decide)) (ms_up c1 (m := 31) (by decide))
  refine sp_gramsOf hA hC hS hH t1 ?_
  refine sp_gramsOf hA hC hS hH u1 ?_
  have e : grS A S (zand (T l 11 p) (zxor (T l 6 0) (-1))) - grS A S (zand (T l 11 p) (T l 6 0)) = wtS A S p := by
    unfold grS wtS
    rw [← sZ_sub]
    refine sZ_congr (fun f f0 f1 => ?_)
    have k1 := g2 f f0 (by omega)
    have k2 := c2 f f0 (by omega)
    show (if bt (zand (T l 11 p) (zxor (T l 6 0) (-1))) f = true then A 7 f * hdS A S f else 0) - (if bt (zand (T l 11 p) (T l 6 0)) f = true then A 7 f * hdS A S f else 0) = _
    rw [t2, u2, k1, k2]
    have hf : f < A 1 0 := by omega
    unfold vlS
    by_cases q1 : A 6 f = p <;> by_cases q2 : A 8 f = 1 <;> simp [q1, q2, hf]
  rw [e]
  exact hq
