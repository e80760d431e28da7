/-! quotients, remainders -/
theorem zdiv_n {a b : Int} (ha : 0 ≤ a) (ha2 : a ≤ 2147483647) (hb : 0 < b) (hb2 : b ≤ 2147483647) : zdiv a b = a / b := by
  unfold zdiv
  rw [Int32.toInt_div, zI_toInt (by unfold zR; omega), zI_toInt (by unfold zR; omega), Int.tdiv_eq_ediv_of_nonneg ha]
  have h1 : 0 ≤ a / b := Int.ediv_nonneg ha (by omega)
  have h2 : a / b ≤ a := Int.ediv_le_self b ha
  exact Int.bmod_eq_of_le (by omega) (by omega)
theorem zrem_n {a b : Int} (ha : 0 ≤ a) (ha2 : a ≤ 2147483647) (hb : 0 < b) (hb2 : b ≤ 2147483647) : zrem a b = a % b := by
  have h1 := zdiv_n ha ha2 hb hb2
  have h3 : zI a / zI b = zI (a / b) := by
    rw [← zI_of (zI a / zI b)]
    unfold zdiv at h1
    rw [h1]
  unfold zrem
  have e : a - a / b * b = a % b := by
    have := Int.emod_add_mul_ediv a b
    rw [Int.mul_comm (a / b) b]
    omega
  have r1 : 0 ≤ a % b := Int.emod_nonneg a (by omega)
  have r2 : a % b < b := Int.emod_lt_of_pos a hb
  rw [h3, zI_mul, zI_sub, e, zI_toInt (by unfold zR; omega)]
theorem zdivL_n {a b : Int} (ha : 0 ≤ a) (ha2 : a ≤ 9223372036854775807) (hb : 0 < b) (hb2 : b ≤ 9223372036854775807) : zdivL a b = a / b := by
  unfold zdivL
  rw [Int64.toInt_div, zJ_toInt (by unfold zRL; omega), zJ_toInt (by unfold zRL; omega), Int.tdiv_eq_ediv_of_nonneg ha]
  have h1 : 0 ≤ a / b := Int.ediv_nonneg ha (by omega)
  have h2 : a / b ≤ a := Int.ediv_le_self b ha
  exact Int.bmod_eq_of_le (by omega) (by omega)
theorem zremL_n {a b : Int} (ha : 0 ≤ a) (ha2 : a ≤ 9223372036854775807) (hb : 0 < b) (hb2 : b ≤ 9223372036854775807) : zremL a b = a % b := by
  have h1 := zdivL_n ha ha2 hb hb2
  have h3 : zJ a / zJ b = zJ (a / b) := by
    rw [← zJ_of (zJ a / zJ b)]
    unfold zdivL at h1
    rw [h1]
  unfold zremL
  have e : a - a / b * b = a % b := by
    have := Int.emod_add_mul_ediv a b
    rw [Int.mul_comm (a / b) b]
    omega
  have r1 : 0 ≤ a % b := Int.emod_nonneg a (by omega)
  have r2 : a % b < b := Int.emod_lt_of_pos a hb
  rw [h3, zJ_mul, zJ_sub, e, zJ_toInt (by unfold zRL; omega)]
theorem zJ_bv {a : Int} (ha : 0 ≤ a) (ha2 : a ≤ 9223372036854775807) : (zJ a).toBitVec.toNat = a.toNat := by
  have e : a = ((a.toNat : Nat) : Int) := (Int.toNat_of_nonneg ha).symm
  show (BitVec.ofInt 64 a).toNat = a.toNat
  rw [BitVec.toNat_ofInt, e]
  omega
theorem zland_n {a : Int} (ha : 0 ≤ a) (ha2 : a ≤ 9223372036854775807) : zlandL a 2147483647 = a % 2147483648 := by
  unfold zlandL
  have h1 : (zJ a &&& zJ 2147483647).toBitVec.toNat = a.toNat % 2147483648 := by
    show ((zJ a).toBitVec &&& (zJ 2147483647).toBitVec).toNat = _
    rw [BitVec.toNat_and, zJ_bv ha ha2, zJ_bv (by decide) (by decide)]
    exact Nat.and_two_pow_sub_one_eq_mod a.toNat 31
  show (zJ a &&& zJ 2147483647).toBitVec.toInt = _
  rw [BitVec.toInt_eq_toNat_of_lt (by rw [h1]; omega), h1]
  omega
