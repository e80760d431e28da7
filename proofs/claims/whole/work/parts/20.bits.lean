/-! bits of numbers that are not negative; sums -/
def bt (s k : Int) : Bool := s.toNat.testBit k.toNat
def ms (n : Nat) (a : Int) : Prop := 0 ≤ a ∧ a < 2 ^ n
theorem ms_up {n m : Nat} {a : Int} (h : ms n a) (hm : n ≤ m) : ms m a := by
  have : (2 : Int) ^ n ≤ 2 ^ m := by
    have h1 : (2 : Nat) ^ n ≤ 2 ^ m := Nat.pow_le_pow_right (by decide) hm
    exact_mod_cast h1
  exact ⟨h.1, Int.lt_of_lt_of_le h.2 this⟩
theorem ms_nat {n : Nat} {a : Int} (h : ms n a) : a.toNat < 2 ^ n := by
  obtain ⟨h1, h2⟩ := h
  have : ((a.toNat : Nat) : Int) < ((2 ^ n : Nat) : Int) := by
    rw [Int.toNat_of_nonneg h1]
    exact_mod_cast h2
  exact_mod_cast this
theorem ms_of_nat {n : Nat} {a : Int} (h0 : 0 ≤ a) (h : a.toNat < 2 ^ n) : ms n a := by
  refine ⟨h0, ?_⟩
  have : ((a.toNat : Nat) : Int) < ((2 ^ n : Nat) : Int) := by exact_mod_cast h
  rw [Int.toNat_of_nonneg h0] at this
  exact_mod_cast this
theorem ms_R {n : Nat} {a : Int} (h : ms n a) (hn : n ≤ 31) : zR a := by
  have h2 := (ms_up h hn).2
  have h1 := h.1
  unfold zR
  omega
theorem zI_natc (n : Nat) : zI (n : Int) = nI n := Int32.ofInt_eq_ofNat
theorem bv_of {a : Int} (h : ms 31 a) (k : Nat) : (zI a).toBitVec.getLsbD k = a.toNat.testBit k := by
  have e : a = ((a.toNat : Nat) : Int) := (Int.toNat_of_nonneg h.1).symm
  have e2 : (zI a).toBitVec = BitVec.ofNat 32 a.toNat := by
    have e3 : zI a = nI a.toNat := by rw [← zI_natc, Int.toNat_of_nonneg h.1]
    rw [e3]
    simp [nI]
  rw [e2, BitVec.getLsbD_ofNat]
  by_cases hk : k < 32
  · simp [hk]
  · have hb : a.toNat.testBit k = false := Nat.testBit_lt_two_pow (Nat.lt_of_lt_of_le (ms_nat h) (Nat.pow_le_pow_right (by decide) (by omega)))
    simp [hk, hb]
theorem to_of {x : Int32} (h : x.toBitVec.getLsbD 31 = false) : ms 31 x.toInt ∧ ∀ k : Nat, x.toInt.toNat.testBit k = x.toBitVec.getLsbD k := by
  have hm : x.toBitVec.msb = false := by rw [BitVec.msb_eq_getLsbD_last]; exact h
  have h1 : 2 * x.toBitVec.toNat < 2 ^ 32 := BitVec.msb_eq_false_iff_two_mul_lt.mp hm
  have h2 : x.toInt = (x.toBitVec.toNat : Int) := by
    show x.toBitVec.toInt = _
    exact BitVec.toInt_eq_toNat_of_lt h1
  refine ⟨⟨by rw [h2]; exact Int.natCast_nonneg _, by rw [h2]; omega⟩, fun k => ?_⟩
  rw [h2, Int.toNat_natCast, BitVec.testBit_toNat]
theorem ms_of_bits {n : Nat} {a : Int} (h : ms 31 a) (hb : ∀ k : Nat, n ≤ k → a.toNat.testBit k = false) : ms n a :=
  ms_of_nat h.1 (Nat.lt_pow_two_of_testBit _ hb)
theorem bt_big {n : Nat} {a k : Int} (h : ms n a) (hk : (n : Int) ≤ k) : bt a k = false :=
  Nat.testBit_lt_two_pow (Nat.lt_of_lt_of_le (ms_nat h) (Nat.pow_le_pow_right (by decide) (by omega)))
theorem ms_ext {n : Nat} {a b : Int} (ha : ms n a) (hb : ms n b) (h : ∀ k : Int, 0 ≤ k → k < n → bt a k = bt b k) : a = b := by
  have e : a.toNat = b.toNat := by
    apply Nat.eq_of_testBit_eq
    intro i
    by_cases hi : i < n
    · have := h (i : Int) (Int.natCast_nonneg _) (by exact_mod_cast hi)
      simpa [bt] using this
    · have h1 := bt_big (k := (i : Int)) ha (by omega)
      have h2 := bt_big (k := (i : Int)) hb (by omega)
      simp only [bt, Int.toNat_natCast] at h1 h2
      rw [h1, h2]
  have := ha.1
  have := hb.1
  omega
theorem zand_b {a b : Int} (ha : ms 31 a) (hb : ms 31 b) : ms 31 (zand a b) ∧ ∀ k, bt (zand a b) k = (bt a k && bt b k) := by
  have h0 : (zI a &&& zI b).toBitVec.getLsbD 31 = false := by
    rw [Int32.toBitVec_and, BitVec.getLsbD_and, bv_of ha, Nat.testBit_lt_two_pow (ms_nat ha)]
    rfl
  obtain ⟨h1, h2⟩ := to_of h0
  refine ⟨h1, fun k => ?_⟩
  show (zI a &&& zI b).toInt.toNat.testBit k.toNat = _
  rw [h2, Int32.toBitVec_and, BitVec.getLsbD_and, bv_of ha, bv_of hb]
  rfl
theorem zor_b {a b : Int} (ha : ms 31 a) (hb : ms 31 b) : ms 31 (zor a b) ∧ ∀ k, bt (zor a b) k = (bt a k || bt b k) := by
  have h0 : (zI a ||| zI b).toBitVec.getLsbD 31 = false := by
    rw [Int32.toBitVec_or, BitVec.getLsbD_or, bv_of ha, bv_of hb, Nat.testBit_lt_two_pow (ms_nat ha), Nat.testBit_lt_two_pow (ms_nat hb)]
    rfl
  obtain ⟨h1, h2⟩ := to_of h0
  refine ⟨h1, fun k => ?_⟩
  show (zI a ||| zI b).toInt.toNat.testBit k.toNat = _
  rw [h2, Int32.toBitVec_or, BitVec.getLsbD_or, bv_of ha, bv_of hb]
  rfl
theorem zxor_b {a b : Int} (ha : ms 31 a) (hb : ms 31 b) : ms 31 (zxor a b) ∧ ∀ k, bt (zxor a b) k = (bt a k ^^ bt b k) := by
  have h0 : (zI a ^^^ zI b).toBitVec.getLsbD 31 = false := by
    rw [Int32.toBitVec_xor, BitVec.getLsbD_xor, bv_of ha, bv_of hb, Nat.testBit_lt_two_pow (ms_nat ha), Nat.testBit_lt_two_pow (ms_nat hb)]
    rfl
  obtain ⟨h1, h2⟩ := to_of h0
  refine ⟨h1, fun k => ?_⟩
  show (zI a ^^^ zI b).toInt.toNat.testBit k.toNat = _
  rw [h2, Int32.toBitVec_xor, BitVec.getLsbD_xor, bv_of ha, bv_of hb]
  rfl
/-- the bits of a that are none of b's -/
theorem zandn_b {a b : Int} (ha : ms 31 a) (hb : ms 31 b) : ms 31 (zand a (zxor b (-1))) ∧ ∀ k, bt (zand a (zxor b (-1))) k = (bt a k && !bt b k) := by
  have e : zand a (zxor b (-1)) = (zI a &&& (zI b ^^^ zI (-1))).toInt := by
    unfold zand zxor
    rw [zI_of]
  have h0 : (zI a &&& (zI b ^^^ zI (-1))).toBitVec.getLsbD 31 = false := by
    rw [Int32.toBitVec_and, BitVec.getLsbD_and, bv_of ha, Nat.testBit_lt_two_pow (ms_nat ha)]
    rfl
  obtain ⟨h1, h2⟩ := to_of h0
  rw [e]
  refine ⟨h1, fun k => ?_⟩
  show (zI a &&& (zI b ^^^ zI (-1))).toInt.toNat.testBit k.toNat = _
  rw [h2, Int32.toBitVec_and, BitVec.getLsbD_and, Int32.toBitVec_xor, BitVec.getLsbD_xor, bv_of ha, bv_of hb]
  have h3 : (zI (-1)).toBitVec = BitVec.allOnes 32 := by decide
  rw [h3, BitVec.getLsbD_allOnes]
  by_cases hk : k.toNat < 32
  · simp [bt, hk]
  · have hb1 : a.toNat.testBit k.toNat = false := Nat.testBit_lt_two_pow (Nat.lt_of_lt_of_le (ms_nat ha) (Nat.pow_le_pow_right (by decide) (by omega)))
    simp [bt, hb1]
theorem zshl_1 : ∀ k : Nat, k < 31 → zshl 1 (k : Int) = 2 ^ k := by decide +kernel
theorem zshl_b {k : Int} (h0 : 0 ≤ k) (h : k < 31) : zshl 1 k = 2 ^ k.toNat := by
  have := zshl_1 k.toNat (by omega)
  rwa [Int.toNat_of_nonneg h0] at this
theorem two_toNat (n : Nat) : ((2 : Int) ^ n).toNat = 2 ^ n := by
  have : (2 : Int) ^ n = ((2 ^ n : Nat) : Int) := by exact_mod_cast rfl
  rw [this, Int.toNat_natCast]
theorem two_pos (n : Nat) : (0 : Int) < 2 ^ n := by
  have : (0 : Nat) < 2 ^ n := Nat.pow_pos (by decide)
  exact_mod_cast this
theorem shl_ms {k : Int} {n : Nat} (h0 : 0 ≤ k) (h : k < n) (hn : n ≤ 31) : ms n (zshl 1 k) := by
  rw [zshl_b h0 (by omega)]
  refine ms_of_nat (Int.le_of_lt (two_pos _)) ?_
  rw [two_toNat]
  exact Nat.pow_lt_pow_right (by decide) (by omega)
theorem shl_bt {k j : Int} (h0 : 0 ≤ k) (h : k < 31) (hj : 0 ≤ j) : bt (zshl 1 k) j = decide (j = k) := by
  rw [zshl_b h0 h]
  unfold bt
  rw [two_toNat, Nat.testBit_two_pow]
  by_cases e : j = k
  · subst e; simp
  · have : ¬ k.toNat = j.toNat := by omega
    simp [e, this]
theorem shr_cnt : ∀ n : Nat, n < 32 → ((nI n &&& 31).toBitVec.smod 32).toNat = n := by decide +kernel
theorem zshr_n {a k : Int} (ha : ms 31 a) (h0 : 0 ≤ k) (h : k < 31) : zshr a k = ((a.toNat / 2 ^ k.toNat : Nat) : Int) := by
  unfold zshr
  have e1 : zI a = nI a.toNat := by rw [← zI_natc, Int.toNat_of_nonneg ha.1]
  have e2 : zI k = nI k.toNat := by rw [← zI_natc, Int.toNat_of_nonneg h0]
  rw [e1, e2, pk_shrN (ms_nat ha) _ k.toNat (shr_cnt _ (by omega)), nI_toInt (Nat.lt_of_le_of_lt (Nat.div_le_self _ _) (ms_nat ha))]
/-- the k-th bit, as a program asks for it -/
theorem bit_at {a k : Int} (ha : ms 31 a) (h0 : 0 ≤ k) (h : k < 31) : zand (zshr a k) 1 = zi (bt a k) := by
  rw [zshr_n ha h0 h]
  have hd : a.toNat / 2 ^ k.toNat < 2 ^ 31 := Nat.lt_of_le_of_lt (Nat.div_le_self _ _) (ms_nat ha)
  have m1 : ms 31 ((a.toNat / 2 ^ k.toNat : Nat) : Int) := ms_of_nat (Int.natCast_nonneg _) (by rw [Int.toNat_natCast]; exact hd)
  have m2 : ms 31 (1 : Int) := ⟨by decide, by decide⟩
  obtain ⟨b1, b2⟩ := zand_b m1 m2
  have r1 : ms 31 (zi (bt a k)) := by cases bt a k <;> exact ⟨by decide, by decide⟩
  refine ms_ext b1 r1 (fun j hj _ => ?_)
  rw [b2]
  have t1 : bt (1 : Int) j = decide (j = 0) := by
    have := shl_bt (k := 0) (j := j) (by decide) (by decide) hj
    rwa [show zshl 1 0 = 1 by decide] at this
  rw [t1]
  by_cases e : j = 0
  · subst e
    have : bt ((a.toNat / 2 ^ k.toNat : Nat) : Int) 0 = bt a k := by
      unfold bt
      rw [Int.toNat_natCast, ← Nat.shiftRight_eq_div_pow, Nat.testBit_shiftRight]
      simp
    rw [this]
    cases bt a k <;> decide
  · have h9 : bt (zi (bt a k)) j = false := by
      cases bt a k with
      | false => simp [zi, bt]
      | true =>
        show bt 1 j = false
        rw [t1]
        simp [e]
    rw [h9]
    simp [e]
theorem bit_R {a k : Int} (ha : ms 31 a) (h0 : 0 ≤ k) (h : k < 31) : zR (zand (zshr a k) 1) := by
  rw [bit_at ha h0 h]
  exact zi_R _
theorem bt_0 (k : Int) : bt 0 k = false := by simp [bt]
theorem ms_0 (n : Nat) : ms n 0 := ⟨Int.le_refl _, two_pos n⟩
theorem zi_1 (b : Bool) : zi b = 1 ↔ b = true := by cases b <;> decide
/-- a bit that is put, one that is taken -/
theorem put_b {n : Nat} {a k : Int} (ha : ms n a) (h0 : 0 ≤ k) (hk : k < n) (hn : n ≤ 31) : ms n (zor a (zshl 1 k)) ∧ ∀ j, 0 ≤ j → bt (zor a (zshl 1 k)) j = (bt a j || decide (j = k)) := by
  have hs := shl_ms h0 hk hn
  obtain ⟨h1, h2⟩ := zor_b (ms_up ha hn) (ms_up hs hn)
  have h3 : ∀ j, 0 ≤ j → bt (zor a (zshl 1 k)) j = (bt a j || decide (j = k)) := fun j hj => by rw [h2, shl_bt h0 (by omega) hj]
  refine ⟨ms_of_bits h1 (fun j hj => ?_), h3⟩
  have := h3 (j : Int) (Int.natCast_nonneg _)
  have h4 := bt_big (k := (j : Int)) ha (by omega)
  rw [h4] at this
  simp only [bt, Int.toNat_natCast] at this
  rw [this]
  simp
  omega
theorem take_b {n : Nat} {a k : Int} (ha : ms n a) (h0 : 0 ≤ k) (hk : k < 31) (hn : n ≤ 31) : ms n (zand a (zxor (zshl 1 k) (-1))) ∧ ∀ j, 0 ≤ j → bt (zand a (zxor (zshl 1 k) (-1))) j = (bt a j && !decide (j = k)) := by
  have hs := shl_ms (n := 31) h0 hk (Nat.le_refl _)
  obtain ⟨h1, h2⟩ := zandn_b (ms_up ha hn) hs
  have h3 : ∀ j, 0 ≤ j → bt (zand a (zxor (zshl 1 k) (-1))) j = (bt a j && !decide (j = k)) := fun j hj => by rw [h2, shl_bt h0 (by omega) hj]
  refine ⟨ms_of_bits h1 (fun j hj => ?_), h3⟩
  have := h3 (j : Int) (Int.natCast_nonneg _)
  have h4 := bt_big (k := (j : Int)) ha (by omega)
  rw [h4] at this
  simp only [bt, Int.toNat_natCast] at this
  rw [this]
  rfl
theorem and_ms {n : Nat} {a b : Int} (ha : ms n a) (hb : ms 31 b) (hn : n ≤ 31) : ms n (zand a b) := by
  obtain ⟨h1, h2⟩ := zand_b (ms_up ha hn) hb
  refine ms_of_bits h1 (fun j hj => ?_)
  have := h2 (j : Int)
  rw [bt_big (k := (j : Int)) ha (by omega)] at this
  simpa [bt] using this
theorem andn_ms {n : Nat} {a b : Int} (ha : ms n a) (hb : ms 31 b) (hn : n ≤ 31) : ms n (zand a (zxor b (-1))) := by
  obtain ⟨h1, h2⟩ := zandn_b (ms_up ha hn) hb
  refine ms_of_bits h1 (fun j hj => ?_)
  have := h2 (j : Int)
  rw [bt_big (k := (j : Int)) ha (by omega)] at this
  simpa [bt] using this
theorem or_ms {n : Nat} {a b : Int} (ha : ms n a) (hb : ms n b) (hn : n ≤ 31) : ms n (zor a b) := by
  obtain ⟨h1, h2⟩ := zor_b (ms_up ha hn) (ms_up hb hn)
  refine ms_of_bits h1 (fun j hj => ?_)
  have := h2 (j : Int)
  rw [bt_big (k := (j : Int)) ha (by omega), bt_big (k := (j : Int)) hb (by omega)] at this
  simpa [bt] using this
/-! sums and counts -/
def sZ (g : Int → Int) : Nat → Int
  | 0 => 0
  | n + 1 => sZ g n + g n
theorem sZ_congr {f g : Int → Int} : ∀ {n : Nat}, (∀ i : Int, 0 ≤ i → i < n → f i = g i) → sZ f n = sZ g n
  | 0, _ => rfl
  | n + 1, h => by
    rw [sZ, sZ, sZ_congr (fun i h0 h1 => h i h0 (by omega)), h n (by omega) (by omega)]
theorem sZ_le {f g : Int → Int} : ∀ {n : Nat}, (∀ i : Int, 0 ≤ i → i < n → f i ≤ g i) → sZ f n ≤ sZ g n
  | 0, _ => Int.le_refl _
  | n + 1, h => by
    rw [sZ, sZ]
    have h1 := sZ_le (n := n) (f := f) (g := g) (fun i h0 h1 => h i h0 (by omega))
    have h2 := h n (by omega) (by omega)
    omega
theorem sZ_const (c : Int) : ∀ n : Nat, sZ (fun _ => c) n = n * c
  | 0 => by simp [sZ]
  | n + 1 => by
    rw [sZ, sZ_const c n]
    simp [Int.add_mul]
theorem sZ_bound {g : Int → Int} {c : Int} {n : Nat} (h : ∀ i : Int, 0 ≤ i → i < n → -c ≤ g i ∧ g i ≤ c) : -(n * c) ≤ sZ g n ∧ sZ g n ≤ n * c := by
  have h1 := sZ_le (f := fun _ => -c) (g := g) (n := n) (fun i h0 h1 => (h i h0 h1).1)
  have h2 := sZ_le (f := g) (g := fun _ => c) (n := n) (fun i h0 h1 => (h i h0 h1).2)
  rw [sZ_const] at h1 h2
  refine ⟨?_, h2⟩
  rw [Int.mul_neg] at h1
  exact h1
theorem sZ_nonneg {g : Int → Int} : ∀ {n : Nat}, (∀ i : Int, 0 ≤ i → i < n → 0 ≤ g i) → 0 ≤ sZ g n
  | 0, _ => Int.le_refl _
  | n + 1, h => by
    rw [sZ]
    have h1 := sZ_nonneg (n := n) (g := g) (fun i h0 h1 => h i h0 (by omega))
    have h2 := h n (by omega) (by omega)
    omega
theorem sZ_add (f g : Int → Int) : ∀ n : Nat, sZ (fun i => f i + g i) n = sZ f n + sZ g n
  | 0 => rfl
  | n + 1 => by
    rw [sZ, sZ, sZ, sZ_add f g n]
    omega
theorem sZ_sub (f g : Int → Int) : ∀ n : Nat, sZ (fun i => f i - g i) n = sZ f n - sZ g n
  | 0 => rfl
  | n + 1 => by
    rw [sZ, sZ, sZ, sZ_sub f g n]
    omega
theorem sZ_neg (f : Int → Int) : ∀ n : Nat, sZ (fun i => -f i) n = -sZ f n
  | 0 => rfl
  | n + 1 => by
    rw [sZ, sZ, sZ_neg f n]
    omega
theorem sZ_zero {g : Int → Int} {n : Nat} (h : ∀ i : Int, 0 ≤ i → i < n → g i = 0) : sZ g n = 0 := by
  rw [sZ_congr (g := fun _ => 0) h, sZ_const]
  simp
/-- what stands behind a place counts nothing -/
theorem sZ_more {g : Int → Int} {n : Nat} : ∀ {m : Nat}, n ≤ m → (∀ i : Int, (n : Int) ≤ i → i < m → g i = 0) → sZ g m = sZ g n
  | 0, h, _ => by rw [show n = 0 by omega]
  | m + 1, h, hz => by
    rcases Nat.lt_or_ge n (m + 1) with q | q
    · rw [sZ, sZ_more (by omega) (fun i h0 h1 => hz i h0 (by omega)), hz m (by omega) (by omega)]
      omega
    · rw [show m + 1 = n by omega]
theorem dec_tf {c : Prop} [Decidable c] {A B : Prop} (ha : c → A) (hb : ¬ c → B) : (decide c = true → A) ∧ (decide c = false → B) := ⟨fun h => ha (of_decide_eq_true h), fun h => hb (of_decide_eq_false h)⟩
theorem dec_ft {c : Prop} [Decidable c] {A B : Prop} (ha : ¬ c → A) (hb : c → B) : (decide c = false → A) ∧ (decide c = true → B) := ⟨fun h => ha (of_decide_eq_false h), fun h => hb (of_decide_eq_true h)⟩
