/-! sets of people -/
theorem full_b (n : Nat) : ms n ((2 : Int) ^ n - 1) ∧ ∀ k, 0 ≤ k → bt ((2 : Int) ^ n - 1) k = decide (k < n) := by
  have h := two_pos n
  have e : ((2 : Int) ^ n - 1).toNat = 2 ^ n - 1 := by
    have := two_toNat n
    omega
  refine ⟨⟨by omega, by omega⟩, fun k k0 => ?_⟩
  unfold bt
  rw [e, Nat.testBit_two_pow_sub_one]
  exact decide_eq_decide.mpr (by omega)
theorem zR_to (x : Int32) : zR x.toInt := by
  have h1 := Int32.le_toInt x
  have h2 := Int32.toInt_lt x
  unfold zR
  omega
theorem bv31 {v : Int} (hv : zR v) (h : v < 0) : (zI v).toBitVec.getLsbD 31 = true := by
  have e : (zI v).toBitVec.toInt = v := zI_toInt hv
  have : (zI v).toBitVec.msb = true := by
    rw [BitVec.msb_eq_toInt, e]
    exact decide_eq_true h
  rwa [BitVec.msb_eq_getLsbD_last] at this
theorem sub_iff {n : Nat} (hn : n ≤ 30) {v : Int} (hv : zR v) : zand v (zxor ((2 : Int) ^ n - 1) (-1)) = 0 ↔ (0 ≤ v ∧ v ≤ (2 : Int) ^ n - 1) := by
  obtain ⟨f1, f2⟩ := full_b n
  have f31 := ms_up f1 (show n ≤ 31 by omega)
  by_cases h : 0 ≤ v
  · have v31 : ms 31 v := ⟨h, by have := hv.2; omega⟩
    obtain ⟨c1, c2⟩ := zandn_b v31 f31
    constructor
    · intro e
      refine ⟨h, ?_⟩
      have : ms n v := ms_of_bits v31 (fun k hk => by
        have q := c2 (k : Int)
        rw [e, bt_0, f2 _ (by omega), decide_eq_false (by omega), Bool.not_false, Bool.and_true] at q
        simpa [bt] using q.symm)
      have := this.2
      omega
    · intro q
      have vn : ms n v := ⟨h, by omega⟩
      refine ms_ext c1 (ms_0 31) (fun k k0 k1 => ?_)
      rw [c2 k, bt_0, f2 k k0]
      by_cases e : k < n
      · rw [decide_eq_true e]
        simp
      · rw [bt_big vn (by omega)]
        rfl
  · refine ⟨fun e => ?_, fun e => absurd e.1 h⟩
    exfalso
    unfold zand at e
    have b1 := bv31 hv (by omega)
    have z : (zI v &&& zI (zxor ((2 : Int) ^ n - 1) (-1))) = 0 := by
      rw [← Int32.toInt_inj]
      exact e
    have z2 : ((zI v).toBitVec &&& (zI (zxor ((2 : Int) ^ n - 1) (-1))).toBitVec).getLsbD 31 = false := by
      show (zI v &&& zI (zxor ((2 : Int) ^ n - 1) (-1))).toBitVec.getLsbD 31 = false
      rw [z]
      rfl
    rw [BitVec.getLsbD_and, b1, Bool.true_and] at z2
    unfold zxor at z2
    rw [zI_of] at z2
    have z3 : ((zI ((2 : Int) ^ n - 1)).toBitVec ^^^ (zI (-1)).toBitVec).getLsbD 31 = false := z2
    rw [BitVec.getLsbD_xor, bv_of f31 31] at z3
    have z4 : ((2 : Int) ^ n - 1).toNat.testBit 31 = false := by
      have := bt_big (k := 31) f31 (by decide)
      simpa [bt] using this
    rw [z4] at z3
    exact absurd z3 (by decide)
theorem evy_eq {A : LA} (hA : LAok A) : zshl 1 (A 0 0) - 1 = (2 : Int) ^ (A 0 0).toNat - 1 := by
  have := hA.1
  rw [zshl_b (by omega) (by omega)]
theorem evf_eq {A : LA} (hA : LAok A) : zshl 1 (A 1 0) - 1 = (2 : Int) ^ (A 1 0).toNat - 1 := by
  have := hA.2.1
  rw [zshl_b (by omega) (by omega)]
def isP (A : LA) (v : Int) : Prop := 0 ≤ v ∧ v ≤ (2 : Int) ^ (A 0 0).toNat - 1
theorem isP_ms {A : LA} {v : Int} (h : isP A v) : ms (A 0 0).toNat v := ⟨h.1, by have := h.2; omega⟩
theorem pow7 : (2 : Int) ^ 7 = 128 := by decide
theorem ms7_R {n : Nat} (hn : n ≤ 30) : zR ((2 : Int) ^ n - 1) := ms_R (full_b n).1 (by omega)
theorem sp_hasPeople {A : LA} {T : TH} {o : Nat} (hA : LAok A) (hC : LandC T o A) {v : Int} {Q : Bool → TH → Prop} (hv : zR v) (h1 : isP A v → Q true T) (h2 : ¬ isP A v → Q false T) : wp_X3_hasPeople o v T Q := by
  have n0 := hA.1
  unfold wp_X3_hasPeople wp_X3_everybody
  rw [hC.1, evy_eq hA]
  have e := sub_iff (show (A 0 0).toNat ≤ 30 by omega) hv
  exact ⟨zR_to _, fun q => h2 (fun z => q (e.mpr z)), fun q => h1 (e.mp q)⟩
theorem sp9_isSet {A : LA} {T : TH} (hA : LAok A) (hM : LandM T A) {v : Int} {Q : Bool → TH → Prop} (hv : zR v) (h1 : isP A v → Q true T) (h2 : ¬ isP A v → Q false T) : wp_X9_isSet v T Q := by
  have n0 := hA.1
  unfold wp_X9_isSet
  rw [hM.1, evy_eq hA]
  refine sp9_in hv z0 (ms7_R (by omega)) ?_
  by_cases e : isP A v
  · rw [decide_eq_true (show 0 ≤ v ∧ v ≤ (2 : Int) ^ (A 0 0).toNat - 1 from e)]
    exact h1 e
  · rw [decide_eq_false (show ¬ (0 ≤ v ∧ v ≤ (2 : Int) ^ (A 0 0).toNat - 1) from e)]
    exact h2 e
theorem sp_hasFactOrNone {A : LA} {T : TH} {o : Nat} (hA : LAok A) (hC : LandC T o A) {f : Int} {Q : Bool → TH → Prop} (hf : zR f) (h1 : f = -1 ∨ (0 ≤ f ∧ f < A 1 0) → Q true T) (h2 : ¬ (f = -1 ∨ (0 ≤ f ∧ f < A 1 0)) → Q false T) : wp_X3_hasFactOrNone o f T Q := by
  unfold wp_X3_hasFactOrNone
  refine ⟨hf, fun q => h1 (Or.inl q), fun q => ?_⟩
  refine sp_hasFact hA hC hf ?_
  exact dec_ft (fun z => h2 (by omega)) (fun z => h1 (Or.inr z))
def laS (A : LA) (S : HA) (v : Int) (n : Nat) : Int := sZ (fun p => if bt v p = true then wtS A S p else 0) n
theorem laS_R {A : LA} (hA : LAok A) (S : HA) (v : Int) {n : Nat} (hn : n ≤ 7) : -3528 ≤ laS A S v n ∧ laS A S v n ≤ 3528 := by
  have := sZ_bound (g := fun p => if bt v p = true then wtS A S p else 0) (c := 504) (n := n) (fun i _ _ => by
    have := wtS_R hA S i
    show -504 ≤ (if bt v i = true then wtS A S i else 0) ∧ (if bt v i = true then wtS A S i else 0) ≤ 504
    split <;> omega)
  unfold laS
  omega
theorem sp_loadOfAll {A : LA} {T : TH} {S : HA} {o l : Nat} {M : Int} (hA : LAok A) (hC : LandC T l A) (hS : HAok A S M) (hH : HeadC T o S) {v : Int} {Q : Int → TH → Prop} (hv : ms 31 v) (hq : Q (laS A S v (A 0 0).toNat) T) : wp_X2_loadOfAll o l v T Q := by
  have n0 := hA.1
  unfold wp_X2_loadOfAll
  refine ⟨(A 0 0).toNat + 1, ?_⟩
  have key : ∀ (d i : Nat), i + d = (A 0 0).toNat → h_X2_loadOfAll_5 o l v Q (d + 1) (laS A S v i) i T := by
    intro d
    induction d with
    | zero =>
      intro i hi
      rw [h_X2_loadOfAll_5, hC.1]
      refine ⟨by unfold zR; omega, by unfold zR; omega, fun _ => ?_, fun h => absurd (by omega) h⟩
      have : i = (A 0 0).toNat := by omega
      subst this
      exact hq
    | succ d ih =>
      intro i hi
      have ihn := ih (i + 1) (by omega)
      unfold laS at ihn
      rw [sZ] at ihn
      rw [h_X2_loadOfAll_5, hC.1]
      refine ⟨by unfold zR; omega, by unfold zR; omega, fun h => absurd h (by omega), fun _ => ?_⟩
      refine bit_ne hv (by omega) (by omega) (fun hb => ?_) (fun hb => ?_)
      · show h_X2_loadOfAll_5 o l v Q (d + 1) (laS A S v i) (i + 1) T
        rw [if_neg (by rw [hb]; decide), Int.add_zero] at ihn
        exact ihn
      · refine sp_load hA hC hS hH (by omega) (by omega) ?_
        rintro _ rfl
        rw [if_pos hb] at ihn
        exact ihn
  exact key (A 0 0).toNat 0 (by omega)
