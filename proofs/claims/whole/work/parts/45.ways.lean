/-! in how many ways facts come to a weight -/
def plS (A : LA) (f : Int) : Int := if A 8 f = 1 then -A 7 f else A 7 f
def wyS (A : LA) (P : Int → Bool) : Nat → Int → Int
  | 0 => fun w => if w = 0 then 1 else 0
  | i + 1 => fun w => if P i = true then sZ (fun k => wyS A P i (w - k * plS A i)) (A 0 0).toNat else wyS A P i w
theorem wyS_0 (A : LA) (P : Int → Bool) (w : Int) : wyS A P 0 w = if w = 0 then 1 else 0 := by rw [wyS]
theorem wyS_s (A : LA) (P : Int → Bool) (i : Nat) (w : Int) : wyS A P (i + 1) w = if P i = true then sZ (fun k => wyS A P i (w - k * plS A i)) (A 0 0).toNat else wyS A P i w := by rw [wyS]
def loS (A : LA) (P : Int → Bool) : Nat → Int
  | 0 => 0
  | i + 1 => loS A P i - (if P i = true ∧ A 8 i = 1 then A 7 i * (A 0 0 - 1) else 0)
def tpS (A : LA) (P : Int → Bool) : Nat → Int
  | 0 => 0
  | i + 1 => tpS A P i + (if P i = true then A 7 i * (A 0 0 - 1) else 0)
theorem gm_R {A : LA} (hA : LAok A) (hn : 1 ≤ A 0 0) {i : Nat} (hi : i < (A 1 0).toNat) : 0 ≤ A 7 i * (A 0 0 - 1) ∧ A 7 i * (A 0 0 - 1) ≤ 54 := by
  have n0 := hA.1
  have h3 := (hA.2.2.2.2.2.2.1 i (by omega) (by omega)).2.1
  have e1 : 0 ≤ A 7 i * (A 0 0 - 1) := Int.mul_nonneg (by omega) (by omega)
  have e2 : A 7 i * (A 0 0 - 1) ≤ 9 * 6 := Int.mul_le_mul h3.2 (by omega) (by omega) (by decide)
  omega
theorem tpS_R {A : LA} (hA : LAok A) (hn : 1 ≤ A 0 0) (P : Int → Bool) : ∀ i : Nat, i ≤ (A 1 0).toNat → (0 ≤ tpS A P i ∧ tpS A P i ≤ 54 * i) ∧ (-(54 * (i : Int)) ≤ loS A P i ∧ loS A P i ≤ 0)
  | 0, _ => by
    rw [tpS, loS]
    omega
  | i + 1, hi => by
    have := tpS_R hA hn P i (by omega)
    have g := gm_R hA hn (i := i) (by omega)
    rw [tpS, loS]
    split <;> split <;> omega
theorem wyS_R {A : LA} (hA : LAok A) (P : Int → Bool) : ∀ (i : Nat) (w : Int), 0 ≤ wyS A P i w ∧ wyS A P i w ≤ 7 ^ i
  | 0, w => by
    rw [wyS_0]
    split <;> decide
  | i + 1, w => by
    have n0 := hA.1
    have h := wyS_R hA P i
    have p : (7 : Int) ^ (i + 1) = 7 ^ i * 7 := Int.pow_succ 7 i
    have p0 : (0 : Int) < 7 ^ i := Int.pow_pos (by decide)
    rw [wyS_s]
    split
    · refine ⟨sZ_nonneg (fun k _ _ => (h _).1), ?_⟩
      have := sZ_le (f := fun k => wyS A P i (w - k * plS A i)) (g := fun _ => 7 ^ i) (n := (A 0 0).toNat) (fun k _ _ => (h _).2)
      rw [sZ_const] at this
      have q : ((A 0 0).toNat : Int) * 7 ^ i ≤ 7 * 7 ^ i := Int.mul_le_mul_of_nonneg_right (by omega) (by omega)
      omega
    · have := h w
      omega
theorem pow7_8 {i : Nat} (h : i ≤ 8) : (7 : Int) ^ i ≤ 5764801 := by
  have : ∀ i : Nat, i < 9 → (7 : Int) ^ i ≤ 5764801 := by decide
  exact this i (by omega)
theorem wyS_8 {A : LA} (hA : LAok A) (P : Int → Bool) {i : Nat} (hi : i ≤ (A 1 0).toNat) (w : Int) : 0 ≤ wyS A P i w ∧ wyS A P i w ≤ 5764801 := by
  have n1 := hA.2.1
  have h := wyS_R hA P i w
  have := pow7_8 (show i ≤ 8 by omega)
  omega
theorem mul_le6 {g k m : Int} (g0 : 0 ≤ g) (k0 : 0 ≤ k) (km : k ≤ m) : 0 ≤ k * g ∧ k * g ≤ g * m := by
  refine ⟨Int.mul_nonneg k0 g0, ?_⟩
  rw [Int.mul_comm g m]
  exact Int.mul_le_mul_of_nonneg_right km g0
/-- nothing outside -/
theorem wyS_out {A : LA} (hA : LAok A) (hn : 1 ≤ A 0 0) (P : Int → Bool) : ∀ (i : Nat) (w : Int), i ≤ (A 1 0).toNat → (w < loS A P i ∨ loS A P i + tpS A P i < w) → wyS A P i w = 0
  | 0, w, _, h => by
    rw [loS, tpS] at h
    rw [wyS_0, if_neg (by omega)]
  | i + 1, w, hi, h => by
    have n0 := hA.1
    have ih := wyS_out hA hn P i
    have g3 := (hA.2.2.2.2.2.2.1 i (by omega) (by omega)).2.1
    rw [loS, tpS] at h
    rw [wyS_s]
    by_cases p : P i = true
    · rw [if_pos p]
      rw [if_pos p] at h
      refine sZ_zero (fun k k0 k1 => ?_)
      have m := mul_le6 (g := A 7 i) (k := k) (m := A 0 0 - 1) (by omega) k0 (by omega)
      refine ih _ (by omega) ?_
      unfold plS
      by_cases l : A 8 i = 1
      · rw [if_pos l, Int.mul_neg]
        rw [if_pos ⟨p, l⟩] at h
        omega
      · rw [if_neg l]
        rw [if_neg (fun z => l z.2)] at h
        omega
    · rw [if_neg p]
      rw [if_neg p, if_neg (fun z => p z.1)] at h
      exact ih w (by omega) (by omega)
theorem sZ_rev {f : Int → Int} : ∀ n : Nat, sZ (fun k => f ((n : Int) - 1 - k)) n = sZ f n
  | 0 => rfl
  | n + 1 => by
    have sh : ∀ (m : Nat) (g : Int → Int), sZ g (m + 1) = g 0 + sZ (fun k => g (k + 1)) m := by
      intro m
      induction m with
      | zero =>
        intro g
        rw [sZ, sZ, sZ]
        show 0 + g ((0 : Nat) : Int) = g 0 + 0
        rw [show ((0 : Nat) : Int) = 0 from rfl]
        omega
      | succ m ih =>
        intro g
        rw [sZ, ih g, sZ]
        have e : g ((m + 1 : Nat) : Int) = g ((m : Int) + 1) := by congr 1
        omega
    rw [sh, show sZ f (n + 1) = sZ f n + f n from rfl, ← sZ_rev (f := f) n]
    have e1 : f (((n + 1 : Nat) : Int) - 1 - 0) = f n := by
      congr 1
      omega
    have e2 : sZ (fun k => f (((n + 1 : Nat) : Int) - 1 - (k + 1))) n = sZ (fun k => f ((n : Int) - 1 - k)) n := sZ_congr (fun k _ _ => by
      show f (((n + 1 : Nat) : Int) - 1 - (k + 1)) = f ((n : Int) - 1 - k)
      congr 1
      omega)
    rw [e1, e2]
    omega
/-- one fact more, place by place -/
theorem wy_step {A : LA} (hA : LAok A) (hn : 1 ≤ A 0 0) {P : Int → Bool} {i : Nat} (hi : i < (A 1 0).toNat) (p : P i = true) (x : Int) : wyS A P (i + 1) (x + loS A P (i + 1)) = sZ (fun k => wyS A P i (x - k * A 7 i + loS A P i)) (A 0 0).toNat := by
  have n0 := hA.1
  rw [wyS_s, if_pos p, loS]
  by_cases l : A 8 i = 1
  · rw [if_pos ⟨p, l⟩, ← sZ_rev]
    refine sZ_congr (fun k k0 k1 => ?_)
    show wyS A P i _ = wyS A P i _
    congr 1
    unfold plS
    rw [if_pos l, Int.mul_neg, Int.sub_mul, Int.sub_mul, Int.one_mul, show ((A 0 0).toNat : Int) = A 0 0 by omega, Int.mul_sub, Int.mul_one, Int.mul_comm (A 7 i) (A 0 0)]
    omega
  · rw [if_neg (fun z => l z.2)]
    refine sZ_congr (fun k k0 k1 => ?_)
    show wyS A P i _ = wyS A P i _
    congr 1
    unfold plS
    rw [if_neg l]
    omega
