/-! whom to keep apart -/
def crB (A : LA) (X k : Int) : Bool := (bt X (A 9 k) && !bt (A 5 0) (A 9 k) && !bt X (A 10 k)) || (bt X (A 10 k) && !bt (A 5 0) (A 10 k) && !bt X (A 9 k))
def woS (A : LA) (X : Int) : Int := mkS (crB A X) (A 2 0).toNat
def mvB (A : LA) (X B q k : Int) : Bool := (!bt B k) && ((bt X (A 9 k) && !bt (A 5 0) (A 9 k) && decide (A 10 k = q)) || (bt X (A 10 k) && !bt (A 5 0) (A 10 k) && decide (A 9 k = q)))
def stS (A : LA) (B X : Int) : Int := mkS (fun q => bt X q || anyZ (mvB A X B q) (A 2 0).toNat) (A 0 0).toNat
def itS (A : LA) (B X : Int) : Nat → Int
  | 0 => X
  | i + 1 => stS A B (itS A B X i)
def kap (x : Int) : Int := 4096 * pcn x 12 + x
theorem woS_ok {A : LA} (hA : LAok A) (X : Int) : ms (A 2 0).toNat (woS A X) ∧ ∀ k, 0 ≤ k → bt (woS A X) k = (decide (k < A 2 0) && crB A X k) := by
  have n2 := hA.2.2.1
  obtain ⟨m1, m2⟩ := mkS_ok (crB A X) (n := (A 2 0).toNat) (by omega)
  refine ⟨m1, fun k k0 => ?_⟩
  show bt (mkS _ _) k = _
  rw [m2 k k0]
  congr 1
  exact decide_eq_decide.mpr (by omega)
theorem stS_ok {A : LA} (hA : LAok A) (B X : Int) : ms (A 0 0).toNat (stS A B X) ∧ ∀ q, 0 ≤ q → bt (stS A B X) q = (decide (q < A 0 0) && (bt X q || anyZ (mvB A X B q) (A 2 0).toNat)) := by
  have n0 := hA.1
  obtain ⟨m1, m2⟩ := mkS_ok (fun q => bt X q || anyZ (mvB A X B q) (A 2 0).toNat) (n := (A 0 0).toNat) (by omega)
  refine ⟨m1, fun k k0 => ?_⟩
  show bt (mkS _ _) k = _
  rw [m2 k k0]
  congr 1
  exact decide_eq_decide.mpr (by omega)
theorem sp_waysOut {A : LA} {T : TH} {o : Nat} (hA : LAok A) (hC : LandC T o A) {X : Int} (hX : ms 31 X) {Q : Int → TH → Prop} (hq : Q (woS A X) T) : wp_X3_waysOut o X T Q := by
  have n0 := hA.1
  have n2 := hA.2.2.1
  have hQ := hA.2.2.2.2.2.1
  unfold wp_X3_waysOut
  rw [hC.2.2.2.2.2.1]
  rintro _ rfl
  obtain ⟨t1, t2⟩ := zandn_b hX (ms_up hQ (show 7 ≤ 31 by decide))
  refine ⟨(A 2 0).toNat + 1, ?_⟩
  have key : ∀ (d i : Nat), i + d = (A 2 0).toNat → h_X3_waysOut_14 o X Q (d + 1) (zand X (zxor (A 5 0) (-1))) (mkS (crB A X) i) i T := by
    intro d
    induction d with
    | zero =>
      intro i hi
      have : i = (A 2 0).toNat := by omega
      subst this
      rw [h_X3_waysOut_14, hC.2.2.1]
      exact ⟨by unfold zR; omega, by unfold zR; omega, fun _ => hq, fun z => absurd (by omega) z⟩
    | succ d ih =>
      intro i hi
      have ihn := ih (i + 1) (by omega)
      rw [mkS] at ihn
      obtain ⟨m1, m2⟩ := mkS_ok (crB A X) (n := i) (by omega)
      obtain ⟨r9, r10, r11⟩ := hA.2.2.2.2.2.2.2.1 i (by omega) (by omega)
      obtain ⟨c1, c2⟩ := hC.2.2.2.2.2.2.2.2.2.2.1 i (by omega) (by omega)
      have yes : crB A X i = true → b_X3_waysOut_101 o X Q (h_X3_waysOut_14 o X Q (d + 1)) (zand X (zxor (A 5 0) (-1))) (mkS (crB A X) i) i T := fun z => by
        show ∀ w1 : Int, w1 = _ → _
        rintro _ rfl
        rw [if_pos z] at ihn
        exact ihn
      have no : crB A X i = false → b_X3_waysOut_108 o X Q (h_X3_waysOut_14 o X Q (d + 1)) (zand X (zxor (A 5 0) (-1))) (mkS (crB A X) i) i T := fun z => by
        rw [if_neg (by rw [z]; decide), zor_0 m1 (by omega)] at ihn
        exact ihn
      have fin : ∀ y z : Bool, (y || z) = crB A X i → b_X3_waysOut_89 o X Q (h_X3_waysOut_14 o X Q (d + 1)) (zand X (zxor (A 5 0) (-1))) (mkS (crB A X) i) i y z T := by
        intro y z hyz
        refine ⟨fun q => yes ?_, fun q => ⟨fun q2 => no ?_, fun q2 => yes ?_⟩⟩
        · rw [← hyz, q]
          rfl
        · rw [← hyz, q, q2]
          rfl
        · rw [← hyz, q, q2]
          rfl
      have mid : ∀ y : Bool, y = (bt X (A 9 i) && !bt (A 5 0) (A 9 i) && !bt X (A 10 i)) → b_X3_waysOut_64 o X Q (h_X3_waysOut_14 o X Q (d + 1)) (zand X (zxor (A 5 0) (-1))) (mkS (crB A X) i) i (A 9 i) (A 10 i) y T := by
        rintro y hy
        refine bit_ne t1 (by omega) (by omega) (fun z => ?_) (fun z => ?_)
        · rw [t2] at z
          refine fin y false ?_
          unfold crB
          rw [z, hy]
          rfl
        · rw [t2] at z
          refine bit_en hX (by omega) (by omega) (fun z2 => ?_) (fun z2 => ?_)
          · refine fin y true ?_
            unfold crB
            rw [hy, z, z2]
            rfl
          · refine fin y false ?_
            unfold crB
            rw [hy, z, z2]
            rfl
      rw [h_X3_waysOut_14, hC.2.2.1, c1, c2]
      refine ⟨by unfold zR; omega, by unfold zR; omega, fun z => absurd z (by omega), fun _ => ⟨by omega, by omega, ?_⟩⟩
      rintro _ rfl
      refine ⟨by omega, by omega, ?_⟩
      rintro _ rfl
      refine bit_ne t1 (by omega) (by omega) (fun z => ?_) (fun z => ?_)
      · rw [t2] at z
        refine mid false ?_
        rw [z]
        rfl
      · rw [t2] at z
        refine bit_en hX (by omega) (by omega) (fun z2 => ?_) (fun z2 => ?_)
        · refine mid true ?_
          rw [z, z2]
          rfl
        · refine mid false ?_
          rw [z, z2]
          rfl
  exact key (A 2 0).toNat 0 (by omega)
theorem sp9_bits {v : Int} {T : TH} {Q : Int → TH → Prop} (hv : ms 31 v) (hq : Q (pcn v 12) T) : wp_X9_bits v T Q := by
  unfold wp_X9_bits
  refine ⟨12 + 1, ?_⟩
  have key : ∀ (d i : Nat), i + d = 12 → h_X9_bits_4 v Q (d + 1) (pcn v i) i T := by
    intro d
    induction d with
    | zero =>
      intro i hi
      have : i = 12 := by omega
      subst this
      rw [h_X9_bits_4]
      exact ⟨by unfold zR; omega, fun _ => hq, fun z => absurd (by omega) z⟩
    | succ d ih =>
      intro i hi
      have ihn := ih (i + 1) (by omega)
      rw [show pcn v (i + 1) = pcn v i + zi (bt v i) from rfl] at ihn
      rw [h_X9_bits_4, bit_at hv (by omega) (by omega)]
      refine ⟨by unfold zR; omega, fun z => absurd z (by omega), fun _ => ?_⟩
      rintro _ rfl
      exact ihn
  exact key 12 0 (by omega)
theorem sp9_canCome {A : LA} {T : TH} {S : HA} {M f p B : Int} (hA : LAok A) (hL : LandM T A) (hM : M ≤ 1000000) (hS : HAok A S M) (hH : HeadM T 26 0 S) (f0 : 0 ≤ f) (f1 : f < A 1 0) (p0 : 0 ≤ p) (p1 : p < A 0 0) (hB : ms 31 B) {Q : Bool → TH → Prop} (hq : Q (bt (itS A B (mkS (fun p => decide (S 0 p f ≠ -1)) (A 0 0).toNat) (A 0 0).toNat) p) T) : wp_X9_canCome f p B T Q := by
  have n0 := hA.1
  have n1 := hA.2.1
  have n2 := hA.2.2.1
  have hQ := hA.2.2.2.2.2.1
  have inner : ∀ (K : Int → Int → TH → Prop) (X : Int) (n : Int), ms (A 0 0).toNat X → K (stS A B X) (n + 1) T → ∃ m, h_X9_canCome_29 f p B Q K m X n 0 0 T := by
    intro K X n hX hK
    have X31 := ms_up hX (show (A 0 0).toNat ≤ 31 by omega)
    obtain ⟨t1, t2⟩ := zandn_b X31 (ms_up hQ (show 7 ≤ 31 by decide))
    have key : ∀ (d i : Nat) (m : Int), i + d = (A 2 0).toNat → ms (A 0 0).toNat m → (∀ q, 0 ≤ q → bt m q = anyZ (mvB A X B q) i) → h_X9_canCome_29 f p B Q K (d + 1) X n m i T := by
      intro d
      induction d with
      | zero =>
        intro i m hi h1 h2
        have : i = (A 2 0).toNat := by omega
        subst this
        rw [h_X9_canCome_29, hL.2.2.1]
        refine ⟨by unfold zR; omega, by unfold zR; omega, fun _ => ?_, fun z => absurd (by omega) z⟩
        rintro _ rfl
        have e : zor X m = stS A B X := by
          obtain ⟨s1, s2⟩ := stS_ok hA B X
          refine ms_ext (or_ms hX h1 (by omega)) s1 (fun q q0 q1 => ?_)
          rw [(zor_b X31 (ms_up h1 (by omega))).2 q, s2 q q0, decide_eq_true (show q < A 0 0 by omega), Bool.true_and, h2 q q0]
        rw [e]
        exact hK
      | succ d ih =>
        intro i m hi h1 h2
        obtain ⟨r9, r10, r11⟩ := hA.2.2.2.2.2.2.2.1 i (by omega) (by omega)
        obtain ⟨c1, c2⟩ := hL.2.2.2.2.2.2.2.1 i (by omega) (by omega)
        have last : ∀ (m1 s : Int), ms (A 0 0).toNat m1 → (∀ q, 0 ≤ q → bt m1 q = (bt m q || ((!bt B i) && (bt X (A 9 i) && !bt (A 5 0) (A 9 i) && decide (A 10 i = q))))) → s = (if ((!bt B i) && (bt X (A 10 i) && !bt (A 5 0) (A 10 i))) = true then zshl 1 (A 9 i) else 0) → b_X9_canCome_145 f p B Q K (h_X9_canCome_29 f p B Q K (d + 1)) X n i m1 s T := by
          intro m1 s g1 g2 gs
          show ∀ w1 : Int, w1 = _ → _
          rintro _ rfl
          have fin : ∀ m2 : Int, ms (A 0 0).toNat m2 → (∀ q, 0 ≤ q → bt m2 q = (bt m1 q || ((!bt B i) && (bt X (A 10 i) && !bt (A 5 0) (A 10 i)) && decide (A 9 i = q)))) → h_X9_canCome_29 f p B Q K (d + 1) X n m2 (i + 1) T := by
            intro m2 k1 k2
            refine ih (i + 1) m2 (by omega) k1 (fun q q0 => ?_)
            rw [k2 q q0, g2 q q0, h2 q q0, anyZ]
            unfold mvB
            cases bt B i <;> cases bt X (A 9 i) <;> cases bt (A 5 0) (A 9 i) <;> cases bt X (A 10 i) <;> cases bt (A 5 0) (A 10 i) <;> simp [Bool.or_assoc]
          cases e : ((!bt B i) && (bt X (A 10 i) && !bt (A 5 0) (A 10 i))) with
          | true =>
            rw [e, if_pos rfl] at gs
            subst gs
            obtain ⟨x1, x2⟩ := put_b g1 (k := A 9 i) (by omega) (by omega) (by omega)
            refine fin _ x1 (fun q q0 => ?_)
            rw [x2 q q0, e, Bool.true_and]
            congr 1
            exact decide_eq_decide.mpr ⟨fun z => z.symm, fun z => z.symm⟩
          | false =>
            rw [e, if_neg (by decide)] at gs
            subst gs
            rw [zor_0 g1 (by omega)]
            refine fin _ g1 (fun q q0 => ?_)
            rw [e, Bool.false_and, Bool.or_false]
        have mid : ∀ (s : Int) (y : Bool), y = !bt B i → s = (if ((!bt B i) && (bt X (A 9 i) && !bt (A 5 0) (A 9 i))) = true then zshl 1 (A 10 i) else 0) → b_X9_canCome_110 f p B Q K (h_X9_canCome_29 f p B Q K (d + 1)) X n i (A 9 i) (A 10 i) y m s T := by
          intro s y hy gs
          show ∀ w1 : Int, w1 = _ → _
          rintro _ rfl
          have nxt : ∀ m1 : Int, ms (A 0 0).toNat m1 → (∀ q, 0 ≤ q → bt m1 q = (bt m q || ((!bt B i) && (bt X (A 9 i) && !bt (A 5 0) (A 9 i) && decide (A 10 i = q))))) → (y = false → (b_X9_canCome_144 f p B Q K (h_X9_canCome_29 f p B Q K (d + 1)) X n i m1 T)) ∧ (y = true → (wp_X9_has (zand X (zxor (T 13 22 0) (-1))) (A 10 i) T (fun p3 T2 => (p3 = false → (b_X9_canCome_144 f p B Q K (h_X9_canCome_29 f p B Q K (d + 1)) X n i m1 T2)) ∧ (p3 = true → (b_X9_canCome_145 f p B Q K (h_X9_canCome_29 f p B Q K (d + 1)) X n i m1 (zshl 1 (A 9 i)) T2))))) := by
            intro m1 g1 g2
            refine ⟨fun z => last m1 0 g1 g2 ?_, fun z => ?_⟩
            · rw [hy] at z
              rw [z]
              rfl
            · rw [hL.2.2.2.2.2.1]
              refine sp9_has t1 (by omega) (by omega) ⟨fun z2 => last m1 0 g1 g2 ?_, fun z2 => last m1 _ g1 g2 ?_⟩
              · rw [t2] at z2
                rw [z2, Bool.and_false, if_neg (by decide)]
              · rw [t2] at z2
                rw [hy] at z
                rw [z2, z]
                rfl
          cases e : ((!bt B i) && (bt X (A 9 i) && !bt (A 5 0) (A 9 i))) with
          | true =>
            rw [e, if_pos rfl] at gs
            subst gs
            obtain ⟨x1, x2⟩ := put_b h1 (k := A 10 i) (by omega) (by omega) (by omega)
            refine nxt _ x1 (fun q q0 => ?_)
            rw [x2 q q0, ← Bool.and_assoc, e, Bool.true_and]
            congr 1
            exact decide_eq_decide.mpr ⟨fun z => z.symm, fun z => z.symm⟩
          | false =>
            rw [e, if_neg (by decide)] at gs
            subst gs
            rw [zor_0 h1 (by omega)]
            refine nxt _ h1 (fun q q0 => ?_)
            rw [← Bool.and_assoc, e, Bool.false_and, Bool.or_false]
        have top : ∀ y : Bool, y = !bt B i → b_X9_canCome_76 f p B Q K (h_X9_canCome_29 f p B Q K (d + 1)) X n m i (A 9 i) (A 10 i) y T := by
          intro y hy
          refine ⟨fun z => mid 0 y hy ?_, fun z => ?_⟩
          · rw [hy] at z
            rw [z]
            rfl
          · rw [hL.2.2.2.2.2.1]
            refine sp9_has t1 (by omega) (by omega) ⟨fun z2 => mid 0 y hy ?_, fun z2 => mid _ y hy ?_⟩
            · rw [t2] at z2
              rw [z2, Bool.and_false, if_neg (by decide)]
            · rw [t2] at z2
              rw [hy] at z
              rw [z2, z]
              rfl
        rw [h_X9_canCome_29, hL.2.2.1, c1, c2]
        refine ⟨by unfold zR; omega, by unfold zR; omega, fun z => absurd z (by omega), fun _ => ⟨by omega, by omega, ?_⟩⟩
        rintro _ rfl
        refine ⟨by omega, by omega, ?_⟩
        rintro _ rfl
        refine sp9_has hB (by omega) (by omega) ⟨fun z => top false ?_, fun z => top true ?_⟩
        · rw [z]
          rfl
        · rw [z]
          rfl
    exact ⟨(A 2 0).toNat + 1, key (A 2 0).toNat 0 0 (by omega) (ms_0 _) (fun q _ => by rw [bt_0, anyZ])⟩
  unfold wp_X9_canCome
  refine sp9_knowersOf hA hL hM hS hH f0 (by omega) ?_
  have s1 := (mkS_ok (fun p => decide (S 0 p f ≠ -1)) (n := (A 0 0).toNat) (by omega)).1
  refine ⟨(A 0 0).toNat + 1, ?_⟩
  have itm : ∀ i, ms (A 0 0).toNat (itS A B (mkS (fun p => decide (S 0 p f ≠ -1)) (A 0 0).toNat) i) := fun i => by
    cases i with
    | zero => exact s1
    | succ i => exact (stS_ok hA B _).1
  have key : ∀ (d i : Nat), i + d = (A 0 0).toNat → h_X9_canCome_14 f p B Q (d + 1) (itS A B (mkS (fun p => decide (S 0 p f ≠ -1)) (A 0 0).toNat) i) i T := by
    intro d
    induction d with
    | zero =>
      intro i hi
      have : i = (A 0 0).toNat := by omega
      subst this
      rw [h_X9_canCome_14, hL.1]
      refine ⟨by unfold zR; omega, by unfold zR; omega, fun _ => ?_, fun z => absurd (by omega) z⟩
      exact sp9_has (ms_up (itm _) (by omega)) p0 (by omega) hq
    | succ d ih =>
      intro i hi
      rw [h_X9_canCome_14, hL.1]
      refine ⟨by unfold zR; omega, by unfold zR; omega, fun z => absurd z (by omega), fun _ => ?_⟩
      exact inner _ _ i (itm i) (ih (i + 1) (by omega))
  exact key (A 0 0).toNat 0 (by omega)
