/-! the fewest heads that must forget -/
def tfI (g : Int) : Nat → Int → Int
  | 0, _ => 0
  | h + 1, o => if 0 < o then 1 + tfI g h (o - g) else 0
theorem tfI_R (g : Int) : ∀ (h : Nat) (o : Int), 0 ≤ tfI g h o ∧ tfI g h o ≤ h
  | 0, o => by rw [tfI]; omega
  | h + 1, o => by
    rw [tfI]
    have := tfI_R g h (o - g)
    split <;> omega
abbrev LSt : Type := Int × Int × (Int → Int)
def lsC (A : LA) (v gr f : Int) : Bool := decide (A 7 f = gr ∧ ¬ A 8 f = 1 ∧ bt v (A 6 f) = true)
def lsT (A : LA) (S : HA) (v gr f : Int) (x : LSt) : LSt := if lsC A v gr f = true then (x.1 - tfI gr (hdS A S f).toNat x.1 * gr, x.2.1 + tfI gr (hdS A S f).toNat x.1, fun y => if y = f then x.2.2 y + tfI gr (hdS A S f).toNat x.1 else x.2.2 y) else x
def lsI (A : LA) (S : HA) (v gr : Int) : Nat → LSt → LSt
  | 0, x => x
  | n + 1, x => lsT A S v gr n (lsI A S v gr n x)
def lsO (A : LA) (S : HA) (v : Int) : Nat → LSt → LSt
  | 0, x => x
  | k + 1, x => lsI A S v (9 - k) (A 1 0).toNat (lsO A S v k x)
def lsB (x : LSt) (c : Nat) : Prop := (-5000 - 63 * (c : Int) ≤ x.1 ∧ x.1 ≤ 5000) ∧ (0 ≤ x.2.1 ∧ x.2.1 ≤ 7 * c) ∧ ∀ y, 0 ≤ x.2.2 y ∧ x.2.2 y ≤ 7 * c
theorem lsB.mono {x : LSt} {c c' : Nat} (h : lsB x c) (hc : c ≤ c') : lsB x c' := ⟨⟨by have := h.1.1; omega, h.1.2⟩, ⟨h.2.1.1, by have := h.2.1.2; omega⟩, fun y => ⟨(h.2.2 y).1, by have := (h.2.2 y).2; omega⟩⟩
theorem lsT_B {A : LA} (hA : LAok A) {S : HA} {v gr f : Int} {x : LSt} {c : Nat} (f0 : 0 ≤ f) (f1 : f < A 1 0) (h : lsB x c) : lsB (lsT A S v gr f x) (c + 1) := by
  unfold lsT
  split
  · rename_i hc
    have hc := of_decide_eq_true hc
    have hg := (hA.2.2.2.2.2.2.1 f f0 f1).2.1
    have hd := hdS_R hA S f
    have ht := tfI_R gr (hdS A S f).toNat x.1
    obtain ⟨h1, h2, h3⟩ := h
    rw [hc.1] at hg
    have m1 : 0 ≤ tfI gr (hdS A S f).toNat x.1 * gr := Int.mul_nonneg ht.1 (by omega)
    have m2 : tfI gr (hdS A S f).toNat x.1 * gr ≤ 7 * 9 := Int.mul_le_mul (by omega) hg.2 (by omega) (by decide)
    refine ⟨⟨?_, ?_⟩, ⟨?_, ?_⟩, fun y => ?_⟩
    · show -5000 - 63 * ((c + 1 : Nat) : Int) ≤ x.1 - tfI gr (hdS A S f).toNat x.1 * gr
      omega
    · show x.1 - tfI gr (hdS A S f).toNat x.1 * gr ≤ 5000
      omega
    · show 0 ≤ x.2.1 + tfI gr (hdS A S f).toNat x.1
      omega
    · show x.2.1 + tfI gr (hdS A S f).toNat x.1 ≤ 7 * ((c + 1 : Nat) : Int)
      omega
    · have := h3 y
      show 0 ≤ (if y = f then x.2.2 y + tfI gr (hdS A S f).toNat x.1 else x.2.2 y) ∧ (if y = f then x.2.2 y + tfI gr (hdS A S f).toNat x.1 else x.2.2 y) ≤ 7 * ((c + 1 : Nat) : Int)
      split <;> omega
  · exact h.mono (by omega)
theorem lsI_B {A : LA} (hA : LAok A) {S : HA} {v gr : Int} {x : LSt} {c : Nat} (h : lsB x c) : ∀ n : Nat, n ≤ (A 1 0).toNat → lsB (lsI A S v gr n x) (c + n)
  | 0, _ => h
  | n + 1, hn => lsT_B hA (by omega) (by omega) (lsI_B hA h n (by omega))
theorem lsO_B {A : LA} (hA : LAok A) {S : HA} {v : Int} {x : LSt} (h : lsB x 0) : ∀ n : Nat, lsB (lsO A S v n x) (8 * n)
  | 0 => h
  | n + 1 => by
    have := hA.2.1
    exact (lsI_B hA (lsO_B hA h n) (A 1 0).toNat (Nat.le_refl _)).mono (by omega)
theorem sp_times {o g : Int} {h : Nat} {T : TH} {Q : Int → TH → Prop} (h7 : h ≤ 7) (g0 : 0 ≤ g) (g9 : g ≤ 9) (o0 : -50000 ≤ o) (o1 : o ≤ 50000) (hq : Q (tfI g h o) T) : wp_X8_timesToForget o g h T Q := by
  unfold wp_X8_timesToForget
  refine ⟨h + 1, ?_⟩
  have key : ∀ (d i : Nat) (o' : Int), i + d = h → o' = o - i * g → Q (i + tfI g d o') T → h_X8_timesToForget_2 o g h Q (d + 1) i T := by
    intro d
    induction d with
    | zero =>
      intro i o' hi ho hq
      rw [h_X8_timesToForget_2]
      rw [tfI, Int.add_zero] at hq
      exact ⟨by unfold zR; omega, by unfold zR; omega, fun _ => hq, fun z => absurd (by omega) z⟩
    | succ d ih =>
      intro i o' hi ho hq
      rw [h_X8_timesToForget_2, ← ho]
      rw [tfI] at hq
      have m1 : 0 ≤ (i : Int) * g := Int.mul_nonneg (by omega) g0
      have m2 : (i : Int) * g ≤ 7 * 9 := Int.mul_le_mul (by omega) g9 g0 (by decide)
      refine ⟨by unfold zR; omega, by unfold zR; omega, fun z => absurd z (by omega), fun _ => ⟨by unfold zR; omega, fun z => ?_, fun z => ?_⟩⟩
      · rw [if_neg (by omega), Int.add_zero] at hq
        exact hq
      · rw [if_pos (by omega)] at hq
        refine ih (i + 1) (o' - g) (by omega) ?_ ?_
        · rw [ho, show (((i + 1 : Nat)) : Int) = (i : Int) + 1 by omega, Int.add_mul]
          omega
        · rw [show (((i + 1 : Nat)) : Int) + tfI g d (o' - g) = (i : Int) + (1 + tfI g d (o' - g)) by omega]
          exact hq
  refine key h 0 o (by omega) (by omega) ?_
  rw [show ((0 : Nat) : Int) + tfI g h o = tfI g h o by omega]
  exact hq
theorem sp_least8 {A : LA} {T : TH} {S : HA} {M v b f : Int} (hA : LAok A) (hC : LandC T (T 0 1 0).toNat A) (hS : HAok A S M) (hH : HeadC T 4 S) (hv : ms 31 v) (hf : zR f) {Q : Int → TH → Prop} {x0 : LSt} (hx : lsB x0 0) (hq : Q (if 0 < (lsO A S v 9 x0).1 then -1 else if f = -1 then (lsO A S v 9 x0).2.1 else (lsO A S v 9 x0).2.2 f) T) : ∃ n, h_X8_least_70 v b f Q n x0.1 x0.2.1 (x0.2.2 f) 9 T := by
  have n0 := hA.1
  have n1 := hA.2.1
  have inner : ∀ (K : Int → Int → Int → Int → TH → Prop) (k : Nat) (x1 : LSt), k < 9 → lsB x1 (8 * k) → K (lsI A S v (9 - k) (A 1 0).toNat x1).1 (lsI A S v (9 - k) (A 1 0).toNat x1).2.1 ((lsI A S v (9 - k) (A 1 0).toNat x1).2.2 f) ((9 - (k : Int)) + (-1)) T → ∀ (d i : Nat), i + d = (A 1 0).toNat → h_X8_least_78 v b f Q K (d + 1) (lsI A S v (9 - k) i x1).1 (lsI A S v (9 - k) i x1).2.1 ((lsI A S v (9 - k) i x1).2.2 f) (9 - (k : Int)) i T := by
    intro K k x1 hk hB hK d
    induction d with
    | zero =>
      intro i hi
      have : i = (A 1 0).toNat := by omega
      subst this
      rw [h_X8_least_78, hC.2.1]
      exact ⟨by unfold zR; omega, by unfold zR; omega, fun _ => hK, fun z => absurd (by omega) z⟩
    | succ d ih =>
      intro i hi
      have ihn := ih (i + 1) (by omega)
      have hBi := lsI_B hA (S := S) (v := v) (gr := 9 - (k : Int)) hB i (by omega)
      rw [lsI] at ihn
      generalize lsI A S v (9 - k) i x1 = y at ihn hBi ⊢
      obtain ⟨r6, r7, r8⟩ := hA.2.2.2.2.2.2.1 i (by omega) (by omega)
      have no : ¬ (A 7 i = 9 - (k : Int) ∧ ¬ A 8 i = 1 ∧ bt v (A 6 i) = true) → b_X8_least_190 v b f Q K (h_X8_least_78 v b f Q K (d + 1)) y.1 y.2.1 (y.2.2 f) (9 - (k : Int)) i T := fun z => by
        unfold lsT at ihn
        rw [if_neg (show ¬ lsC A v (9 - (k : Int)) i = true from fun w => z (of_decide_eq_true w))] at ihn
        exact ihn
      rw [h_X8_least_78, hC.2.1, (hC.2.2.2.2.2.2.2.1 i (by omega) (by omega)).2]
      refine ⟨by unfold zR; omega, by unfold zR; omega, fun z => absurd z (by omega), fun _ => ⟨by omega, by omega, by unfold zR; omega, by unfold zR; omega, fun z => no (fun w => z w.1), fun z => ?_⟩⟩
      refine sp_isLie hA hC (by omega) (by omega) ?_
      refine dec_tf (fun z2 => no (fun w => w.2.1 z2)) (fun z2 => ⟨by omega, by omega, ?_⟩)
      rw [(hC.2.2.2.2.2.2.2.1 i (by omega) (by omega)).1]
      refine bit_ne hv (by omega) (by omega) (fun z3 => no (fun w => ?_)) (fun z3 => ?_)
      · rw [z3] at w
        exact absurd w.2.2 (by decide)
      · refine sp_headsOf hA hC hS hH (by omega) (by omega) ?_
        have hd := hdS_R hA S i
        have ht := tfI_R (9 - (k : Int)) (hdS A S i).toNat y.1
        have e : hdS A S i = ((hdS A S i).toNat : Int) := by omega
        have hy := hBi.1
        have go : wp_X8_timesToForget y.1 (9 - (k : Int)) ((hdS A S i).toNat : Int) T (fun r6 T5 => ∀ w7 : Int, w7 = (y.1 - (r6 * (9 - (k : Int)))) → ∀ w8 : Int, w8 = (y.2.1 + r6) → zR i ∧ zR f ∧ (¬ (i : Int) = f → (b_X8_least_187 v b f Q K (h_X8_least_78 v b f Q K (d + 1)) w7 w8 (9 - (k : Int)) i (y.2.2 f) 0 T5)) ∧ ((i : Int) = f → (b_X8_least_187 v b f Q K (h_X8_least_78 v b f Q K (d + 1)) w7 w8 (9 - (k : Int)) i (y.2.2 f) r6 T5))) := by
          refine sp_times (by omega) (by omega) (by omega) (by omega) (by omega) ?_
          rintro _ rfl _ rfl
          unfold lsT at ihn
          rw [if_pos (show lsC A v (9 - (k : Int)) i = true from decide_eq_true ⟨z, z2, z3⟩)] at ihn
          refine ⟨by unfold zR; omega, hf, fun q => ?_, fun q => ?_⟩
          · show ∀ w1 : Int, w1 = _ → _
            rintro _ rfl
            have ihn : h_X8_least_78 v b f Q K (d + 1) (y.1 - tfI (9 - (k : Int)) (hdS A S i).toNat y.1 * (9 - (k : Int))) (y.2.1 + tfI (9 - (k : Int)) (hdS A S i).toNat y.1) (if f = i then y.2.2 f + tfI (9 - (k : Int)) (hdS A S i).toNat y.1 else y.2.2 f) (9 - (k : Int)) (i + 1) T := ihn
            rw [if_neg (fun w => q w.symm)] at ihn
            rw [Int.add_zero]
            exact ihn
          · show ∀ w1 : Int, w1 = _ → _
            rintro _ rfl
            have ihn : h_X8_least_78 v b f Q K (d + 1) (y.1 - tfI (9 - (k : Int)) (hdS A S i).toNat y.1 * (9 - (k : Int))) (y.2.1 + tfI (9 - (k : Int)) (hdS A S i).toNat y.1) (if f = i then y.2.2 f + tfI (9 - (k : Int)) (hdS A S i).toNat y.1 else y.2.2 f) (9 - (k : Int)) (i + 1) T := ihn
            rw [if_pos q.symm] at ihn
            exact ihn
        rw [← e] at go
        exact go
  have outer : ∀ (d k : Nat), k + d = 9 → h_X8_least_70 v b f Q (d + 1) (lsO A S v k x0).1 (lsO A S v k x0).2.1 ((lsO A S v k x0).2.2 f) (9 - (k : Int)) T := by
    intro d
    induction d with
    | zero =>
      intro k hk
      have : k = 9 := by omega
      subst this
      have hB := (lsO_B hA (S := S) (v := v) hx 9).1
      rw [h_X8_least_70]
      refine ⟨by unfold zR; omega, fun _ => ⟨by unfold zR; omega, fun q => ⟨hf, fun q2 => ?_, fun q2 => ?_⟩, fun q => ?_⟩, fun z => absurd (by omega) z⟩
      · rwa [if_neg (by omega), if_neg q2] at hq
      · rwa [if_neg (by omega), if_pos q2] at hq
      · rwa [if_pos (by omega)] at hq
    | succ d ih =>
      intro k hk
      rw [h_X8_least_70]
      refine ⟨by unfold zR; omega, fun z => absurd z (by omega), fun _ => ⟨(A 1 0).toNat + 1, ?_⟩⟩
      have ihn := ih (k + 1) (by omega)
      rw [lsO] at ihn
      refine inner _ k _ (by omega) (lsO_B hA hx k) ?_ (A 1 0).toNat 0 (by omega)
      rw [show 9 - (k : Int) + -1 = 9 - ((k + 1 : Nat) : Int) by omega]
      exact ihn
  exact ⟨9 + 1, outer 9 0 (by omega)⟩
theorem sp9_forget {v b f : Int} {Q : Int → TH → Prop} {K1 : Int → Int → Int → TH → Prop} {K2 : Int → Int → Int → Int → TH → Prop} {g i : Int} (i0 : 0 ≤ i) (i1 : i < 8) (g0 : 0 ≤ g) (g9 : g ≤ 9) : ∀ (d : Nat) (o a : Int) (T : TH), d ≤ 7 → -50000 ≤ o - 9 * d → o ≤ 50000 → (∀ T', (T' 13 33 i = T 13 33 i + tfI g d o) → (∀ o' j x, ¬ (o' = 13 ∧ j = 33 ∧ x = i) → T' o' j x = T o' j x) → b_X9_least_229 v b f Q K1 K2 (o - tfI g d o * g) (a + tfI g d o) g i T') → h_X9_least_187 v b f Q K1 K2 (d + 1) o a g i true d T := by
  intro d
  induction d with
  | zero =>
    intro o a T hd h1 h2 hq
    rw [h_X9_least_187]
    refine ⟨by unfold zR; omega, fun _ => ?_, fun z => absurd (by omega) z⟩
    have := hq T (by rw [tfI, Int.add_zero]) (fun _ _ _ _ => rfl)
    rwa [tfI, Int.add_zero, Int.zero_mul, Int.sub_zero] at this
  | succ d ih =>
    intro o a T hd h1 h2 hq
    rw [h_X9_least_187]
    refine ⟨by unfold zR; omega, fun z => absurd z (by omega), fun _ => ⟨fun z => absurd z (by decide), fun _ => ⟨by unfold zR; omega, fun z => ?_, fun z => ⟨i0, i1, i0, i1, ?_⟩⟩⟩⟩
    · rw [tfI, if_neg (by omega)] at hq
      have := hq T (by rw [Int.add_zero]) (fun _ _ _ _ => rfl)
      rwa [Int.add_zero, Int.zero_mul, Int.sub_zero] at this
    · rintro _ rfl _ rfl
      rw [tfI, if_pos (by omega)] at hq
      have e : ((d + 1 : Nat) : Int) + (-1) = (d : Int) := by omega
      rw [e]
      refine ih (o - g) (a + 1) _ (by omega) (by omega) (by omega) (fun T' x1 x2 => ?_)
      have := hq T' (by rw [x1, up_eq]; omega) (fun o' j x hn => by rw [x2 _ _ _ hn, up_ne (by omega)])
      rw [show o - g - tfI g d (o - g) * g = o - (1 + tfI g d (o - g)) * g by rw [Int.add_mul]; omega, show a + 1 + tfI g d (o - g) = a + (1 + tfI g d (o - g)) by omega]
      exact this
theorem sp9_least9 {A : LA} {T : TH} {S : HA} {M v b f : Int} (hA : LAok A) (hL : LandM T A) (hM : M ≤ 1000000) (hS : HAok A S M) (hH : HeadM T 26 0 S) (hv : ms 31 v) (hf : f = -1 ∨ (0 ≤ f ∧ f < A 1 0)) {Q : Int → TH → Prop} {x0 : LSt} (hx : lsB x0 0) (h33 : ∀ y, 0 ≤ y → y < 8 → T 13 33 y = x0.2.2 y) (hq : ∀ T', (∀ o j x, ¬ (o = 13 ∧ j = 33) → T' o j x = T o j x) → Q (if 0 < (lsO A S v 9 x0).1 then -1 else if f = -1 then (lsO A S v 9 x0).2.1 else (lsO A S v 9 x0).2.2 f) T') : ∃ n, h_X9_least_118 v b f Q n x0.1 x0.2.1 9 T := by
  have n0 := hA.1
  have n1 := hA.2.1
  let F : TH → Prop := fun T' => ∀ o j x, ¬ (o = 13 ∧ j = 33) → T' o j x = T o j x
  let W : TH → LSt → Prop := fun T' x => ∀ y, 0 ≤ y → y < 8 → T' 13 33 y = x.2.2 y
  have inner : ∀ (K : Int → Int → Int → TH → Prop) (k : Nat) (x1 : LSt), k < 9 → lsB x1 (8 * k) → (∀ T', F T' → W T' (lsI A S v (9 - k) (A 1 0).toNat x1) → K (lsI A S v (9 - k) (A 1 0).toNat x1).1 (lsI A S v (9 - k) (A 1 0).toNat x1).2.1 ((9 - (k : Int)) + (-1)) T') → ∀ (d i : Nat) (T1 : TH), i + d = (A 1 0).toNat → F T1 → W T1 (lsI A S v (9 - k) i x1) → h_X9_least_126 v b f Q K (d + 1) (lsI A S v (9 - k) i x1).1 (lsI A S v (9 - k) i x1).2.1 (9 - (k : Int)) i T1 := by
    intro K k x1 hk hB hK d
    induction d with
    | zero =>
      intro i T1 hi hF hW
      have : i = (A 1 0).toNat := by omega
      subst this
      rw [h_X9_least_126, hF 13 18 0 (by omega), hL.2.1]
      exact ⟨by unfold zR; omega, by unfold zR; omega, fun _ => hK T1 hF hW, fun z => absurd (by omega) z⟩
    | succ d ih =>
      intro i T1 hi hF hW
      have hBi := lsI_B hA (S := S) (v := v) (gr := 9 - (k : Int)) hB i (by omega)
      have ihn := ih (i + 1)
      rw [lsI] at ihn
      generalize lsI A S v (9 - k) i x1 = y at ihn hBi hW ⊢
      obtain ⟨r6, r7, r8⟩ := hA.2.2.2.2.2.2.1 i (by omega) (by omega)
      have l1 : LandM T1 A := hL.off (fun j x hj => hF _ _ _ (by omega))
      have k1 : HeadM T1 26 0 S := hH.eq (fun _ _ _ => hF _ _ _ (by omega))
      have hd := hdS_R hA S i
      have e : hdS A S i = ((hdS A S i).toNat : Int) := by omega
      have no : ¬ (A 7 i = 9 - (k : Int) ∧ ¬ A 8 i = 1 ∧ bt v (A 6 i) = true) → b_X9_least_172 v b f Q K (h_X9_least_126 v b f Q K (d + 1)) y.1 y.2.1 (9 - (k : Int)) i T1 := fun z => by
        have e2 : lsT A S v (9 - (k : Int)) i y = y := by
          unfold lsT
          rw [if_neg (show ¬ lsC A v (9 - (k : Int)) i = true from fun w => z (of_decide_eq_true w))]
        rw [e2] at ihn
        unfold b_X9_least_172 b_X9_least_173
        refine sp9_headsOf hA l1 hM hS k1 (by omega) (by omega) ⟨1, ?_⟩
        rw [h_X9_least_187]
        exact ⟨by unfold zR; omega, fun _ => ihn T1 (by omega) hF hW, fun _ => ⟨fun _ => ihn T1 (by omega) hF hW, fun z => absurd z (by decide)⟩⟩
      rw [h_X9_least_126, hF 13 18 0 (by omega), hL.2.1]
      refine ⟨by unfold zR; omega, by unfold zR; omega, fun z => absurd z (by omega), fun _ => ?_⟩
      refine sp9_gramsOf hA l1 (by omega) (by omega) ⟨by unfold zR; omega, by unfold zR; omega, fun z => no (fun w => z w.1), fun z => ?_⟩
      refine sp9_isLie hA l1 (by omega) (by omega) ?_
      refine dec_tf (fun z2 => no (fun w => w.2.1 z2)) (fun z2 => ?_)
      refine sp9_personOf hA l1 (by omega) (by omega) ?_
      refine sp9_has hv (by omega) (by omega) ?_
      refine ⟨fun z3 => no (fun w => ?_), fun z3 => ?_⟩
      · rw [z3] at w
        exact absurd w.2.2 (by decide)
      · have e2 : lsT A S v (9 - (k : Int)) i y = (y.1 - tfI (9 - (k : Int)) (hdS A S i).toNat y.1 * (9 - (k : Int)), y.2.1 + tfI (9 - (k : Int)) (hdS A S i).toNat y.1, fun (z : Int) => if z = (i : Int) then y.2.2 z + tfI (9 - (k : Int)) (hdS A S i).toNat y.1 else y.2.2 z) := by
          unfold lsT
          rw [if_pos (show lsC A v (9 - (k : Int)) i = true from decide_eq_true ⟨z, z2, z3⟩)]
        rw [e2] at ihn
        have hy := hBi.1
        unfold b_X9_least_173
        refine sp9_headsOf hA l1 hM hS k1 (by omega) (by omega) ⟨(hdS A S i).toNat + 1, ?_⟩
        have go := sp9_forget (v := v) (b := b) (f := f) (Q := Q) (K1 := K) (K2 := h_X9_least_126 v b f Q K (d + 1)) (g := 9 - (k : Int)) (i := (i : Int)) (by omega) (by omega) (by omega) (by omega) (hdS A S i).toNat y.1 y.2.1 T1 (by omega) (by omega) (by omega) (fun T' x1 x2 => by
          refine ihn T' (by omega) (fun o' j x hn => ?_) (fun z z0 z1 => ?_)
          · rw [x2 _ _ _ (by omega)]
            exact hF _ _ _ hn
          · show T' 13 33 z = if z = i then y.2.2 z + tfI (9 - (k : Int)) (hdS A S i).toNat y.1 else y.2.2 z
            by_cases ez : z = i
            · rw [if_pos ez, ez, x1, hW i (by omega) (by omega)]
            · rw [if_neg ez, x2 _ _ _ (by omega), hW z z0 z1])
        rw [← e] at go
        exact go
  have outer : ∀ (d k : Nat) (T1 : TH), k + d = 9 → F T1 → W T1 (lsO A S v k x0) → h_X9_least_118 v b f Q (d + 1) (lsO A S v k x0).1 (lsO A S v k x0).2.1 (9 - (k : Int)) T1 := by
    intro d
    induction d with
    | zero =>
      intro k T1 hk hF hW
      have : k = 9 := by omega
      subst this
      have hB := (lsO_B hA (S := S) (v := v) hx 9).1
      have hq := hq T1 hF
      rw [h_X9_least_118]
      refine ⟨by unfold zR; omega, fun _ => ⟨by unfold zR; omega, fun q => ⟨by unfold zR; omega, fun q2 => ⟨by omega, by omega, ?_⟩, fun q2 => ?_⟩, fun q => ?_⟩, fun z => absurd (by omega) z⟩
      · rw [if_neg (by omega), if_neg q2] at hq
        rw [hW f (by omega) (by omega)]
        exact hq
      · rwa [if_neg (by omega), if_pos q2] at hq
      · rwa [if_pos (by omega)] at hq
    | succ d ih =>
      intro k T1 hk hF hW
      rw [h_X9_least_118]
      refine ⟨by unfold zR; omega, fun z => absurd z (by omega), fun _ => ⟨(A 1 0).toNat + 1, ?_⟩⟩
      have ihn := ih (k + 1)
      rw [lsO] at ihn
      refine inner _ k _ (by omega) (lsO_B hA hx k) (fun T' f' w' => ?_) (A 1 0).toNat 0 T1 (by omega) hF hW
      rw [show 9 - (k : Int) + -1 = 9 - ((k + 1 : Nat) : Int) by omega]
      exact ihn T' (by omega) f' w'
  exact ⟨9 + 1, outer 9 0 T (by omega) (fun _ _ _ _ => rfl) h33⟩
def lsA (A : LA) (S : HA) (v b f : Int) : Int := if 0 < (lsO A S v 9 (laS A S v (A 0 0).toNat - A 11 b, 0, fun _ => 0)).1 then -1 else if f = -1 then (lsO A S v 9 (laS A S v (A 0 0).toNat - A 11 b, 0, fun _ => 0)).2.1 else (lsO A S v 9 (laS A S v (A 0 0).toNat - A 11 b, 0, fun _ => 0)).2.2 f
theorem lsX_B {A : LA} (hA : LAok A) (S : HA) (v : Int) {b : Int} (b0 : 0 ≤ b) (b1 : b < A 3 0) : lsB (laS A S v (A 0 0).toNat - A 11 b, 0, fun _ => 0) 0 := by
  have n0 := hA.1
  have nb := hA.2.2.2.2.2.2.2.2 b b0 b1
  have la := laS_R hA S v (n := (A 0 0).toNat) (by omega)
  refine ⟨⟨?_, ?_⟩, ⟨Int.le_refl _, Int.le_refl _⟩, fun y => ⟨Int.le_refl _, Int.le_refl _⟩⟩
  · show -5000 - 63 * ((0 : Nat) : Int) ≤ laS A S v (A 0 0).toNat - A 11 b
    omega
  · show laS A S v (A 0 0).toNat - A 11 b ≤ 5000
    omega
theorem sp9_least32 {A : LA} {T : TH} {S : HA} {v b f : Int} (a3 : LAok A) (a5 : LandM T A) (a4 : HAok A S 90099) (a7 : HeadM T 26 0 S) (v31 : ms 31 v) (b0 : 0 ≤ b) (b1 : b < A 3 0) (hf : f = -1 ∨ (0 ≤ f ∧ f < A 1 0)) {Q : Int → TH → Prop} (hq : ∀ T', (∀ o j x, ¬ (o = 13 ∧ j = 33) → T' o j x = T o j x) → Q (lsA A S v b f) T') : b_X9_least_32 v b f Q T := by
  have n0 := a3.1
  have n3 := a3.2.2.2.1
  have hx := lsX_B a3 S v b0 b1
  refine ⟨b0, by omega, ?_⟩
  rintro _ rfl
  rw [a5.2.2.2.2.2.2.2.2 b b0 b1]
  refine ⟨(A 0 0).toNat + 1, ?_⟩
  have key : ∀ (d i : Nat), i + d = (A 0 0).toNat → h_X9_least_44 v b f Q (d + 1) (-(A 11 b) + laS A S v i) i T := by
    intro d
    induction d with
    | zero =>
      intro i hi
      have : i = (A 0 0).toNat := by omega
      subst this
      rw [h_X9_least_44, a5.1]
      refine ⟨by unfold zR; omega, by unfold zR; omega, fun _ => ⟨8 + 1, ?_⟩, fun z => absurd (by omega) z⟩
      have clear : ∀ (d i : Nat) (T1 : TH), i + d = 8 → (∀ y : Int, 0 ≤ y → y < i → T1 13 33 y = 0) → (∀ o j x, ¬ (o = 13 ∧ j = 33) → T1 o j x = T o j x) → h_X9_least_93 v b f Q (d + 1) (-(A 11 b) + laS A S v (A 0 0).toNat) false i T1 := by
        intro d
        induction d with
        | zero =>
          intro i T1 hi k1 k2
          rw [h_X9_least_93]
          refine ⟨by unfold zR; omega, fun _ => ?_, fun z => absurd (by omega) z⟩
          rw [show -(A 11 b) + laS A S v (A 0 0).toNat = laS A S v (A 0 0).toNat - A 11 b by omega]
          refine sp9_least9 (x0 := (laS A S v (A 0 0).toNat - A 11 b, 0, fun _ => 0)) a3 (a5.off (fun j x hj => k2 _ _ _ (by omega))) (by decide) a4 (a7.eq (fun _ _ _ => k2 _ _ _ (by omega))) v31 hf hx (fun y y0 y1 => k1 y y0 (by omega)) (fun T' x1 => ?_)
          exact hq T' (fun o j x hn => by rw [x1 _ _ _ hn, k2 _ _ _ hn])
        | succ d ih =>
          intro i T1 hi k1 k2
          rw [h_X9_least_93]
          refine ⟨by unfold zR; omega, fun z => absurd z (by omega), fun _ => ⟨by omega, by omega, ?_⟩⟩
          rintro _ rfl
          refine ih (i + 1) _ (by omega) (fun y y0 y1 => ?_) (fun o j x hn => by rw [up_ne (by omega), k2 _ _ _ hn])
          by_cases e : y = i
          · subst e
            rw [up_eq]
          · rw [up_ne (by omega)]
            exact k1 y y0 (by omega)
      exact clear 8 0 T (by omega) (fun y y0 y1 => by omega) (fun _ _ _ _ => rfl)
    | succ d ih =>
      intro i hi
      have ihn := ih (i + 1) (by omega)
      rw [show laS A S v (i + 1) = laS A S v i + (if bt v i = true then wtS A S i else 0) from rfl, ← Int.add_assoc] at ihn
      rw [h_X9_least_44, a5.1]
      refine ⟨by unfold zR; omega, by unfold zR; omega, fun z => absurd z (by omega), fun _ => ?_⟩
      refine sp9_has v31 (by omega) (by omega) ?_
      refine ⟨fun z => ?_, fun z => ?_⟩
      · show ∀ w1 : Int, w1 = _ → _
        rintro _ rfl
        rw [if_neg (by rw [z]; decide)] at ihn
        exact ihn
      · refine sp9_weightOf a3 a5 (by decide) a4 a7 (by unfold zR; omega) ?_
        show ∀ w1 : Int, w1 = _ → _
        rintro _ rfl
        rw [if_pos z] at ihn
        exact ihn
  have := key (A 0 0).toNat 0 (by omega)
  rwa [show laS A S v 0 = 0 from rfl, Int.add_zero] at this
theorem st_least {T : TH} (H : Inv T) {v b f : Int} (hv : zR v) (hb : zR b) (hf : zR f) : wp_X8_least v b f T (fun r1 T1 => wp_X9_least v b f T1 (fun r2 T2 => r1 = r2 ∧ zR r1 ∧ Inv T2)) := by
  obtain ⟨A, S, h⟩ := H
  have h0 := h
  obtain ⟨a1, a2, a3, a4, a5, a6, a7, a8, a9, a10, a11, a12⟩ := h
  have n0 := a3.1
  have n1 := a3.2.1
  have n3 := a3.2.2.2.1
  have out : ¬ (isP A v ∧ (0 ≤ b ∧ b < A 3 0) ∧ (f = -1 ∨ (0 ≤ f ∧ f < A 1 0))) → wp_X9_least v b f T (fun r2 T2 => -1000000001 = r2 ∧ zR (-1000000001) ∧ Inv T2) := by
    intro hno
    unfold wp_X9_least
    refine sp9_isSet a3 a5 hv (fun q1 => ?_) (fun q1 => ⟨fun _ => ⟨rfl, zRu, A, S, h0⟩, fun z => absurd z (by decide)⟩)
    refine ⟨fun z => absurd z (by decide), fun _ => ?_⟩
    refine sp9_isBridge a3 a5 hb ?_
    refine dec_ft (fun _ => ⟨rfl, zRu, A, S, h0⟩) (fun q2 => ⟨hf, fun q3 => absurd ⟨q1, q2, Or.inl q3⟩ hno, fun q3 => ?_⟩)
    refine sp9_isFact a3 a5 hf ?_
    exact dec_tf (fun q4 => absurd ⟨q1, q2, Or.inr q4⟩ hno) (fun _ => ⟨rfl, zRu, A, S, h0⟩)
  unfold wp_X8_least
  refine sp_hasPeople a3 a6 hv (fun q1 => ⟨fun z => absurd z (by decide), fun _ => ?_⟩) (fun q1 => ⟨fun _ => out (fun z => q1 z.1), fun z => absurd z (by decide)⟩)
  refine sp_hasBridge a3 a6 hb ?_
  refine dec_ft (fun q2 => out (fun z => q2 z.2.1)) (fun q2 => ?_)
  refine sp_hasFactOrNone a3 a6 hf (fun q3 => ⟨fun _ => ?_, fun z => absurd z (by decide)⟩) (fun q3 => ⟨fun z => absurd z (by decide), fun _ => out (fun z => q3 z.2.2)⟩)
  have v31 : ms 31 v := ms_up (isP_ms q1) (by omega)
  refine sp_loadOfAll a3 a6 a4 a8 v31 ⟨q2.1, by omega, ?_⟩
  rintro _ rfl
  rw [a6.2.2.2.2.2.2.2.2.2.2.2 b q2.1 q2.2]
  have hx := lsX_B a3 S v q2.1 q2.2
  refine sp_least8 (x0 := (laS A S v (A 0 0).toNat - A 11 b, 0, fun _ => 0)) a3 a6 a4 a8 v31 hf hx ?_
  show wp_X9_least v b f T (fun r2 T2 => lsA A S v b f = r2 ∧ zR (lsA A S v b f) ∧ Inv T2)
  have hB := lsO_B a3 (S := S) (v := v) hx 9
  have rr : zR (lsA A S v b f) := by
    have z1 := hB.2.1
    have z2 := hB.2.2 f
    unfold zR lsA
    split
    · decide
    · split <;> omega
  have ref : b_X9_least_32 v b f (fun r2 T2 => lsA A S v b f = r2 ∧ zR (lsA A S v b f) ∧ Inv T2) T := by
    refine sp9_least32 a3 a5 a4 a7 v31 q2.1 q2.2 q3 (fun T' x1 => ⟨rfl, rr, A, S, h0.fr (fun o j i hs => ?_)⟩)
    exact x1 _ _ _ (fun z => hs (by unfold scr; omega))
  unfold wp_X9_least
  refine sp9_isSet a3 a5 hv (fun _ => ⟨fun z => absurd z (by decide), fun _ => ?_⟩) (fun z => absurd q1 z)
  refine sp9_isBridge a3 a5 hb ?_
  refine dec_ft (fun z => absurd q2 z) (fun _ => ⟨hf, fun _ => ref, fun q4 => ?_⟩)
  refine sp9_isFact a3 a5 hf ?_
  exact dec_tf (fun _ => ref) (fun z => absurd (by omega) z)
