/-! whom to keep apart: the least that is broken -/
def subB (X Y : Int) : Prop := ∀ k, 0 ≤ k → bt X k = true → bt Y k = true
theorem pcn_sub {X Y : Int} (h : subB X Y) : ∀ n : Nat, pcn X n ≤ pcn Y n
  | 0 => Int.le_refl _
  | n + 1 => by
    have := pcn_sub h n
    have e1 : pcn X (n + 1) = pcn X n + zi (bt X n) := rfl
    have e2 : pcn Y (n + 1) = pcn Y n + zi (bt Y n) := rfl
    have : zi (bt X n) ≤ zi (bt Y n) := by
      cases q : bt X n with
      | false => exact (zi_01 _).1
      | true =>
        rw [h n (by omega) q]
        exact Int.le_refl _
    omega
theorem pcn_lt {X Y : Int} (h : subB X Y) {k : Int} : ∀ {n : Nat}, 0 ≤ k → k < n → bt X k = false → bt Y k = true → pcn X n + 1 ≤ pcn Y n
  | 0, k0, k1, _, _ => by omega
  | n + 1, k0, k1, hx, hy => by
    have e1 : pcn X (n + 1) = pcn X n + zi (bt X n) := rfl
    have e2 : pcn Y (n + 1) = pcn Y n + zi (bt Y n) := rfl
    by_cases e : k = n
    · subst e
      have := pcn_sub h n
      rw [hx] at e1
      rw [hy] at e2
      have a1 : zi false = 0 := rfl
      have a2 : zi true = 1 := rfl
      omega
    · have := pcn_lt h (n := n) k0 (by omega) hx hy
      have : zi (bt X n) ≤ zi (bt Y n) := by
        cases q : bt X n with
        | false => exact (zi_01 _).1
        | true =>
          rw [h n (by omega) q]
          exact Int.le_refl _
      omega
theorem pcn_le (X : Int) (n : Nat) : 0 ≤ pcn X n ∧ pcn X n ≤ n := cnt_le (G := fun k => bt X k) n
theorem sub_le {n : Nat} {X Y : Int} (hX : ms n X) (hY : 0 ≤ Y) (h : subB X Y) : X ≤ Y := by
  have : X.toNat ≤ Y.toNat := Nat.le_of_testBit (fun i hi => by
    have := h (i : Int) (by omega) (by simpa [bt] using hi)
    simpa [bt] using this)
  have := hX.1
  omega
theorem kap_sub {X Y : Int} (hX : ms 12 X) (hY : ms 12 Y) (h : subB X Y) : kap X ≤ kap Y := by
  have := pcn_sub h 12
  have := sub_le hX hY.1 h
  unfold kap
  omega
theorem kap_inj {X Y : Int} (hX : ms 12 X) (hY : ms 12 Y) (h : kap X = kap Y) : X = Y := by
  have x1 := hX.1
  have x2 : X < 4096 := hX.2
  have y1 := hY.1
  have y2 : Y < 4096 := hY.2
  unfold kap at h
  omega
/-- nothing goes out of X but by what is broken -/
def cloS (A : LA) (B X : Int) : Prop := subB (woS A X) B
theorem clo_iff {A : LA} (hA : LAok A) {B X : Int} (hX : ms (A 0 0).toNat X) : cloS A B X ↔ stS A B X = X := by
  have n0 := hA.1
  have n2 := hA.2.2.1
  obtain ⟨w1, w2⟩ := woS_ok hA X
  obtain ⟨s1, s2⟩ := stS_ok hA B X
  constructor
  · intro h
    refine ms_ext s1 hX (fun q q0 q1 => ?_)
    rw [s2 q q0, decide_eq_true (show q < A 0 0 by omega), Bool.true_and]
    cases e : bt X q with
    | true => rfl
    | false =>
      rw [Bool.false_or]
      cases r : anyZ (mvB A X B q) (A 2 0).toNat with
      | false => rfl
      | true =>
        exfalso
        obtain ⟨k, k0, k1, k2⟩ := anyZ_iff.mp r
        have hk := h k k0
        rw [w2 k k0, decide_eq_true (show k < A 2 0 by omega), Bool.true_and] at hk
        unfold mvB at k2
        rw [Bool.and_eq_true] at k2
        obtain ⟨b1, b2⟩ := k2
        have nb : bt B k = false := by simpa using b1
        have cr : crB A X k = true := by
          unfold crB
          rw [Bool.or_eq_true] at b2 ⊢
          rcases b2 with b2 | b2
          · rw [Bool.and_eq_true] at b2
            have := of_decide_eq_true b2.2
            left
            rw [b2.1, this, e]
            rfl
          · rw [Bool.and_eq_true] at b2
            have := of_decide_eq_true b2.2
            right
            rw [b2.1, this, e]
            rfl
        rw [hk cr] at nb
        exact absurd nb (by decide)
  · intro h k k0 hk
    rw [w2 k k0, Bool.and_eq_true] at hk
    have k1 := of_decide_eq_true hk.1
    obtain ⟨r9, r10, r11⟩ := hA.2.2.2.2.2.2.2.1 k k0 k1
    cases e : bt B k with
    | true => rfl
    | false =>
      exfalso
      have hc := hk.2
      unfold crB at hc
      rw [Bool.or_eq_true] at hc
      rcases hc with hc | hc
      · rw [Bool.and_eq_true] at hc
        have nx : bt X (A 10 k) = false := by simpa using hc.2
        have : bt (stS A B X) (A 10 k) = true := by
          rw [s2 _ (by omega), decide_eq_true (show A 10 k < A 0 0 by omega), Bool.true_and, Bool.or_eq_true]
          right
          refine anyZ_iff.mpr ⟨k, k0, by omega, ?_⟩
          unfold mvB
          rw [e, hc.1, decide_eq_true rfl]
          rfl
        rw [h, nx] at this
        exact absurd this (by decide)
      · rw [Bool.and_eq_true] at hc
        have nx : bt X (A 9 k) = false := by simpa using hc.2
        have : bt (stS A B X) (A 9 k) = true := by
          rw [s2 _ (by omega), decide_eq_true (show A 9 k < A 0 0 by omega), Bool.true_and, Bool.or_eq_true]
          right
          refine anyZ_iff.mpr ⟨k, k0, by omega, ?_⟩
          unfold mvB
          rw [e, hc.1, decide_eq_true rfl]
          simp
        rw [h, nx] at this
        exact absurd this (by decide)
theorem st_sup {A : LA} (hA : LAok A) {B X : Int} (hX : ms (A 0 0).toNat X) : subB X (stS A B X) := by
  have n0 := hA.1
  obtain ⟨s1, s2⟩ := stS_ok hA B X
  intro k k0 hk
  have k1 : k < A 0 0 := by
    by_cases z : k < A 0 0
    · exact z
    · rw [bt_big hX (by omega)] at hk
      exact absurd hk (by decide)
  rw [s2 k k0, decide_eq_true k1, hk]
  rfl
theorem st_in {A : LA} (hA : LAok A) {B X Y : Int} (hY : cloS A B Y) (hYm : ms (A 0 0).toNat Y) (h : subB X Y) : subB (stS A B X) Y := by
  have n0 := hA.1
  have n2 := hA.2.2.1
  obtain ⟨s1, s2⟩ := stS_ok hA B X
  have hY := (clo_iff hA hYm).mp hY
  obtain ⟨t1, t2⟩ := stS_ok hA B Y
  intro q q0 hq
  rw [← hY, t2 q q0]
  rw [s2 q q0, Bool.and_eq_true, Bool.or_eq_true] at hq
  rw [Bool.and_eq_true, Bool.or_eq_true]
  refine ⟨hq.1, ?_⟩
  rcases hq.2 with z | z
  · exact Or.inl (h q q0 z)
  · right
    obtain ⟨k, k0, k1, k2⟩ := anyZ_iff.mp z
    obtain ⟨r9, r10, r11⟩ := hA.2.2.2.2.2.2.2.1 k k0 (by omega)
    refine anyZ_iff.mpr ⟨k, k0, k1, ?_⟩
    unfold mvB at k2 ⊢
    rw [Bool.and_eq_true, Bool.or_eq_true] at k2 ⊢
    refine ⟨k2.1, ?_⟩
    rcases k2.2 with w | w
    · rw [Bool.and_eq_true, Bool.and_eq_true] at w
      left
      rw [h _ r9.1 w.1.1, w.1.2, w.2]
      rfl
    · rw [Bool.and_eq_true, Bool.and_eq_true] at w
      right
      rw [h _ r10.1 w.1.1, w.1.2, w.2]
      rfl
theorem it_ms {A : LA} (hA : LAok A) {B X : Int} (hX : ms (A 0 0).toNat X) : ∀ i, ms (A 0 0).toNat (itS A B X i)
  | 0 => hX
  | i + 1 => (stS_ok hA B _).1
theorem it_in {A : LA} (hA : LAok A) {B X Y : Int} (hY : cloS A B Y) (hYm : ms (A 0 0).toNat Y) (h : subB X Y) : ∀ i, subB (itS A B X i) Y
  | 0 => h
  | i + 1 => st_in hA hY hYm (it_in hA hY hYm h i)
theorem it_sup {A : LA} (hA : LAok A) {B X : Int} (hX : ms (A 0 0).toNat X) : ∀ i, subB X (itS A B X i)
  | 0 => fun _ _ h => h
  | i + 1 => fun k k0 h => st_sup hA (it_ms hA hX i) k k0 (it_sup hA hX i k k0 h)
theorem it_grow {A : LA} (hA : LAok A) {B X : Int} (hX : ms (A 0 0).toNat X) : ∀ i : Nat, stS A B (itS A B X i) = itS A B X i ∨ (i : Int) ≤ pcn (itS A B X i) (A 0 0).toNat
  | 0 => Or.inr (pcn_le _ _).1
  | i + 1 => by
    have m := it_ms hA hX (B := B) i
    rcases it_grow hA hX (B := B) i with h | h
    · left
      show stS A B (stS A B (itS A B X i)) = stS A B (itS A B X i)
      rw [h, h]
    · by_cases e : stS A B (itS A B X i) = itS A B X i
      · left
        show stS A B (stS A B (itS A B X i)) = stS A B (itS A B X i)
        rw [e, e]
      · right
        show ((i + 1 : Nat) : Int) ≤ pcn (stS A B (itS A B X i)) (A 0 0).toNat
        have sup := st_sup hA m (B := B)
        have ex : ∃ k : Int, 0 ≤ k ∧ k < ((A 0 0).toNat : Int) ∧ bt (itS A B X i) k = false ∧ bt (stS A B (itS A B X i)) k = true := by
          refine Classical.byContradiction (fun hn => e (ms_ext (stS_ok hA B _).1 m (fun k k0 k1 => ?_)))
          cases q : bt (itS A B X i) k with
          | true => exact sup k k0 q
          | false =>
            cases r : bt (stS A B (itS A B X i)) k with
            | false => rfl
            | true => exact absurd ⟨k, k0, k1, q, r⟩ hn
        obtain ⟨k, k0, k1, k2, k3⟩ := ex
        have := pcn_lt sup k0 k1 k2 k3
        omega
theorem it_clo {A : LA} (hA : LAok A) {B X : Int} (hX : ms (A 0 0).toNat X) : cloS A B (itS A B X (A 0 0).toNat) := by
  have n0 := hA.1
  have m := it_ms hA hX (B := B) (A 0 0).toNat
  refine (clo_iff hA m).mpr ?_
  rcases it_grow hA hX (B := B) (A 0 0).toNat with h | h
  · exact h
  · refine ms_ext (stS_ok hA B _).1 m (fun k k0 k1 => ?_)
    cases r : bt (itS A B X (A 0 0).toNat) k with
    | true => exact st_sup hA m k k0 r
    | false =>
      exfalso
      obtain ⟨f1, f2⟩ := full_b (A 0 0).toNat
      have sb : subB (itS A B X (A 0 0).toNat) ((2 : Int) ^ (A 0 0).toNat - 1) := fun j j0 hj => by
        rw [f2 j j0]
        refine decide_eq_true ?_
        by_cases z : j < ((A 0 0).toNat : Int)
        · exact z
        · rw [bt_big m (by omega)] at hj
          exact absurd hj (by decide)
      have := pcn_lt sb k0 k1 r (by rw [f2 k k0]; exact decide_eq_true k1)
      have := (pcn_le ((2 : Int) ^ (A 0 0).toNat - 1) (A 0 0).toNat).2
      omega
/-- a set of friendships keeps p apart -/
def blkS (A : LA) (src p B : Int) : Bool := !bt (itS A B src (A 0 0).toNat) p
def sdS (A : LA) (src p X : Int) : Bool := decide (zand src (zxor X (-1)) = 0) && !bt X p
theorem src_sub {n : Nat} (hn : n ≤ 31) {s X : Int} (hs : ms n s) (hX : ms n X) : zand s (zxor X (-1)) = 0 ↔ subB s X := by
  obtain ⟨c1, c2⟩ := zandn_b (ms_up hs hn) (ms_up hX hn)
  constructor
  · intro e k k0 hk
    have := c2 k
    rw [e, bt_0, hk, Bool.true_and] at this
    cases q : bt X k with
    | true => rfl
    | false =>
      rw [q] at this
      exact absurd this (by decide)
  · intro h
    refine ms_ext c1 (ms_0 31) (fun k k0 _ => ?_)
    rw [c2 k, bt_0]
    cases q : bt s k with
    | false => rfl
    | true =>
      rw [h k k0 q]
      rfl
theorem side_blk {A : LA} (hA : LAok A) {src p B X : Int} (p0 : 0 ≤ p) (hs : ms (A 0 0).toNat src) (hX : ms (A 0 0).toNat X) (h1 : subB src X) (h2 : bt X p = false) (h3 : cloS A B X) : blkS A src p B = true := by
  unfold blkS
  cases q : bt (itS A B src (A 0 0).toNat) p with
  | false => rfl
  | true =>
    have := it_in hA h3 hX h1 (A 0 0).toNat p p0 q
    rw [h2] at this
    exact absurd this (by decide)
/-- class's and reference's answers are the same -/
theorem apart_eq {A : LA} (hA : LAok A) {src p c r : Int} (p0 : 0 ≤ p) (hs : ms (A 0 0).toNat src) (hp : bt src p = false)
    (c1 : c = (2 : Int) ^ (A 2 0).toNat - 1 ∨ ∃ X, ms (A 0 0).toNat X ∧ sdS A src p X = true ∧ c = woS A X)
    (c2 : ∀ X, ms (A 0 0).toNat X → sdS A src p X = true → kap c ≤ kap (woS A X))
    (r1 : ms (A 2 0).toNat r) (r2 : blkS A src p r = true) (r3 : ∀ B, ms (A 2 0).toNat B → blkS A src p B = true → kap r ≤ kap B) : c = r := by
  have n0 := hA.1
  have n2 := hA.2.2.1
  have sd : ∀ X, ms (A 0 0).toNat X → (sdS A src p X = true ↔ (subB src X ∧ bt X p = false)) := fun X hX => by
    unfold sdS
    rw [Bool.and_eq_true, decide_eq_true_iff, src_sub (by omega) hs hX]
    simp
  obtain ⟨f1, f2⟩ := full_b (A 2 0).toNat
  have cb : ms (A 2 0).toNat c ∧ blkS A src p c = true := by
    rcases c1 with h | ⟨X, x1, x2, x3⟩
    · subst h
      refine ⟨f1, side_blk hA p0 hs hs (fun _ _ h => h) hp (fun k k0 hk => ?_)⟩
      rw [(woS_ok hA src).2 k k0, Bool.and_eq_true] at hk
      rw [f2 k k0]
      have := of_decide_eq_true hk.1
      exact decide_eq_true (by omega)
    · subst x3
      have := (sd X x1).mp x2
      exact ⟨(woS_ok hA X).1, side_blk hA p0 hs x1 this.1 this.2 (fun _ _ h => h)⟩
  have le1 := r3 c cb.1 cb.2
  have R := it_ms hA hs (B := r) (A 0 0).toNat
  have clo := it_clo hA hs (B := r)
  have vs : sdS A src p (itS A r src (A 0 0).toNat) = true := by
    refine (sd _ R).mpr ⟨it_sup hA hs _, ?_⟩
    unfold blkS at r2
    simpa using r2
  have le2 := c2 _ R vs
  have le3 := kap_sub (ms_up (woS_ok hA _).1 (by omega)) (ms_up r1 (by omega)) clo
  exact kap_inj (ms_up cb.1 (by omega)) (ms_up r1 (by omega)) (by omega)
