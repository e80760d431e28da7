/-! ferries: the reference, the call -/
theorem sp9_together {A : LA} {S : HA} {T : TH} {x : Int} (hA : LAok A) (hL : LandM T A) (hw : ∀ p, 0 ≤ p → p < A 0 0 → T 13 37 p = wtS A S p) (hx : ms 31 x) {Q : Int → TH → Prop} (hq : Q (laS A S x (A 0 0).toNat) T) : wp_X9_togetherOf x T Q := by
  have n0 := hA.1
  unfold wp_X9_togetherOf
  have key : ∀ (d i : Nat), i + d = (A 0 0).toNat → h_X9_togetherOf_4 x Q (d + 1) (laS A S x i) i T := by
    intro d
    induction d with
    | zero =>
      intro i hi
      have : i = (A 0 0).toNat := by omega
      subst this
      rw [h_X9_togetherOf_4, hL.1]
      exact ⟨by unfold zR; omega, by unfold zR; omega, fun _ => hq, fun z => absurd (by omega) z⟩
    | succ d ih =>
      intro i hi
      have ihn := ih (i + 1) (by omega)
      rw [show laS A S x (i + 1) = laS A S x i + (if bt x i = true then wtS A S i else 0) from rfl] at ihn
      rw [h_X9_togetherOf_4, hL.1]
      refine ⟨by unfold zR; omega, by unfold zR; omega, fun z => absurd z (by omega), fun _ => ?_⟩
      refine sp9_has hx (by omega) (by omega) ⟨fun z => ?_, fun z => ⟨by omega, by omega, ?_⟩⟩
      · show ∀ w1 : Int, w1 = _ → _
        rintro _ rfl
        rw [if_neg (by rw [z]; decide)] at ihn
        exact ihn
      · show ∀ w1 : Int, w1 = _ → _
        rintro _ rfl
        rw [if_pos z] at ihn
        rw [hw i (by omega) (by omega)]
        exact ihn
  exact ⟨_, key (A 0 0).toNat 0 (by omega)⟩
def b99 (v : Int) : Int := if v = -1 then 99 else v
theorem b99_R {v : Int} (h : -1 ≤ v ∧ v ≤ 7) : 0 ≤ b99 v ∧ b99 v ≤ 99 := by
  unfold b99
  split <;> omega
def WtR (T : TH) (A : LA) (S : HA) : Prop := ∀ p, 0 ≤ p → p < A 0 0 → T 13 37 p = wtS A S p
/-- one row of the table of the fewest -/
theorem sp9_row {A : LA} {S : HA} {T : TH} {set b v x : Int} (hA : LAok A) (hL : LandM T A) (hw : WtR T A S) (b0 : 0 ≤ b) (b1 : b < A 3 0) (hx : ms 7 x) (hT : ∀ y, 0 ≤ y → y < x → T 13 34 y = b99 (tgF A S (A 11 b) y)) {Q : Int → TH → Prop} {K : Int → TH → Prop} (h0 : T 13 34 x = if x = 0 then 0 else 99) (hq : ∀ T', (T' 13 34 x = b99 (tgF A S (A 11 b) x)) → (∀ (o j : Nat) (i : Int), ¬ (o = 13 ∧ j = 34 ∧ i = x) → T' o j i = T o j i) → K (x + 1) T') : ∃ n, h_X9_trips_89 set b v Q K n x 1 T := by
  have n0 := hA.1
  have n3 := hA.2.2.2.1
  have nb := hA.2.2.2.2.2.2.2.2 b b0 b1
  have x7 : 0 ≤ x ∧ x < 128 := hx
  by_cases ex : x = 0
  · subst ex
    refine ⟨1, ?_⟩
    rw [h_X9_trips_89]
    refine ⟨by unfold zR; omega, by unfold zR; omega, fun _ => hq T ?_ (fun _ _ _ _ => rfl), fun z => absurd (by decide) z⟩
    rw [h0, tgF_0]
    rfl
  · rw [if_neg ex] at h0
    have key : ∀ (d i : Nat) (T1 : TH), (i : Int) + d = x → T1 13 34 x = b99 (tgG A S (A 11 b) (tgF A S (A 11 b)) x i) → (∀ (o j : Nat) (i : Int), ¬ (o = 13 ∧ j = 34 ∧ i = x) → T1 o j i = T o j i) → h_X9_trips_89 set b v Q K (d + 1) x (i + 1) T1 := by
      intro d
      induction d with
      | zero =>
        intro i T1 hi k1 k2
        rw [h_X9_trips_89]
        refine ⟨by unfold zR; omega, by unfold zR; omega, fun _ => hq T1 ?_ k2, fun z => absurd (by omega) z⟩
        rw [k1, tgF_eq hx (by omega), show x.toNat = i by omega]
      | succ d ih =>
        intro i T1 hi k1 k2
        have hg : ms 7 ((i : Int) + 1) := ⟨by omega, by show (i : Int) + 1 < 128; omega⟩
        have la := laS_R hA S ((i : Int) + 1) (n := (A 0 0).toNat) (by omega)
        have gr := tgG_R (A := A) (S := S) (br := A 11 b) (x := x) (c := 7) (F := tgF A S (A 11 b)) (k := i) (fun g g0 g1 hv => by
          obtain ⟨hg, hs⟩ := tv_sub hx g0 (by omega) hv
          have := df_lt hx hg (by omega) hs
          have q := tgF_R A S (A 11 b) (df x g).toNat (df x g) (Nat.le_refl _) (df_b hx hg).1
          have := pcn_le x 7
          omega)
        have gR : -1 ≤ tgG A S (A 11 b) (tgF A S (A 11 b)) x i ∧ tgG A S (A 11 b) (tgF A S (A 11 b)) x i ≤ 7 := by
          rcases gr with q | q <;> omega
        have bR := b99_R gR
        have nxt : ∀ w : Int, w = b99 (tgG A S (A 11 b) (tgF A S (A 11 b)) x (i + 1)) → b_X9_trips_184 set b v Q K (h_X9_trips_89 set b v Q K (d + 1)) x (i + 1) x w T1 := by
          rintro w hw
          refine ⟨x7.1, x7.2, ?_⟩
          rintro _ rfl
          refine ih (i + 1) _ (by omega) (by rw [up_eq]; exact hw) (fun o j y hn => by rw [up_ne (by omega), k2 _ _ _ hn])
        have fin : ∀ s : Int, 0 ≤ s → s ≤ 100 → b99 (tgG A S (A 11 b) (tgF A S (A 11 b)) x (i + 1)) = (if b99 (tgG A S (A 11 b) (tgF A S (A 11 b)) x i) ≤ s then b99 (tgG A S (A 11 b) (tgF A S (A 11 b)) x i) else s) → b_X9_trips_152 set b v Q K (h_X9_trips_89 set b v Q K (d + 1)) x (i + 1) s T1 := by
          intro s s0 s1 hs
          refine ⟨x7.1, x7.2, by unfold zR; omega, by rw [k1]; unfold zR; omega, fun z => ⟨x7.1, x7.2, ?_⟩, fun z => ?_⟩
          · rw [k1] at z
            rw [if_pos z] at hs
            refine nxt _ ?_
            rw [k1, hs]
          · rw [k1] at z
            rw [if_neg z] at hs
            exact nxt _ hs.symm
        have no : tvB A S (A 11 b) x (i + 1) = false → b_X9_trips_125 set b v Q K (h_X9_trips_89 set b v Q K (d + 1)) x (i + 1) T1 := fun z => by
          refine ⟨fun _ => fin 99 (by decide) (by decide) ?_, fun w => absurd w (by decide)⟩
          rw [tgG, z, if_neg (fun w => absurd w.1 (by decide)), if_pos bR.2]
        rw [h_X9_trips_89]
        refine ⟨by unfold zR; omega, by unfold zR; omega, fun z => absurd z (by omega), fun _ => ⟨zR_to _, fun z => no (decide_eq_false (fun w => z w.1)), fun z => ?_⟩⟩
        have hs := (ms7_sub hg hx).mp z
        have l1 : LandM T1 A := hL.off (fun j y hj => k2 _ _ _ (by omega))
        refine sp9_together hA l1 (fun p p0 p1 => by rw [k2 _ _ _ (by omega)]; exact hw p p0 p1) (ms_up hg (by decide)) ?_
        rw [l1.2.2.2.2.2.2.2.2 b b0 b1]
        refine ⟨b0, by omega, by unfold zR; omega, by unfold zR; omega, fun z2 => no (decide_eq_false (fun w => absurd w.2 (by omega))), fun z2 => ?_⟩
        have tv : tvB A S (A 11 b) x (i + 1) = true := decide_eq_true ⟨z, by omega⟩
        have dl := df_lt hx hg (by omega) hs
        have d7 := tgF_7 (A := A) (S := S) (br := A 11 b) (df_b hx hg).1
        have e : T1 13 34 (zand x (zxor ((i : Int) + 1) (-1))) = b99 (tgF A S (A 11 b) (df x (i + 1))) := by
          show T1 13 34 (df x (i + 1)) = _
          rw [k2 _ _ _ (by omega)]
          exact hT _ dl.1 dl.2.1
        refine ⟨fun w => absurd w (by decide), fun _ => ⟨dl.1, by show df x (i + 1) < 128; omega, ?_⟩⟩
        rw [e]
        have d9 := b99_R d7
        refine fin _ (by omega) (by omega) ?_
        rw [tgG, tv]
        generalize tgF A S (A 11 b) (df x (i + 1)) = u at d7 d9 ⊢
        generalize tgG A S (A 11 b) (tgF A S (A 11 b)) x i = t at gR bR ⊢
        unfold b99
        by_cases u1 : u = -1
        · rw [if_neg (show ¬ (true = true ∧ u ≠ -1 ∧ (t = -1 ∨ u + 1 < t)) from fun w => w.2.1 u1), if_pos u1]
          split <;> split <;> omega
        · by_cases t1 : t = -1
          · rw [if_pos (show true = true ∧ u ≠ -1 ∧ (t = -1 ∨ u + 1 < t) from ⟨rfl, u1, Or.inl t1⟩), if_neg u1, if_pos t1, if_neg (by omega), if_neg (by omega)]
          · by_cases ut : u + 1 < t
            · rw [if_pos (show true = true ∧ u ≠ -1 ∧ (t = -1 ∨ u + 1 < t) from ⟨rfl, u1, Or.inr ut⟩), if_neg u1, if_neg t1, if_neg (by omega), if_neg (by omega)]
            · rw [if_neg (show ¬ (true = true ∧ u ≠ -1 ∧ (t = -1 ∨ u + 1 < t)) from fun w => by rcases w.2.2 with w | w <;> omega), if_neg u1, if_neg t1, if_pos (by omega)]
    exact ⟨_, key x.toNat 0 T (by omega) (by rw [h0]; rfl) (fun _ _ _ _ => rfl)⟩
/-- one search for a group -/
theorem sp9_search {A : LA} {S : HA} {T : TH} {set b v x t k : Int} (hA : LAok A) (hL : LandM T A) (hw : WtR T A S) (b0 : 0 ≤ b) (b1 : b < A 3 0) (hx : ms 7 x) (hT : ∀ y, 0 ≤ y → y ≤ x → T 13 34 y = b99 (tgF A S (A 11 b) y)) (h1 : 1 ≤ tgF A S (A 11 b) x) {Q : Int → TH → Prop} {K : Int → Int → Int → Int → TH → Prop} (hq : K t (df x (fgF A S (A 11 b) x)) (fgF A S (A 11 b) x) (k + 1) T) : ∃ n, h_X9_trips_260 set b v Q K n t x (-1) k x T := by
  have n0 := hA.1
  have n3 := hA.2.2.2.1
  have nb := hA.2.2.2.2.2.2.2.2 b b0 b1
  have x7 : 0 ≤ x ∧ x < 128 := hx
  have x8 := tgF_7 (A := A) (S := S) (br := A 11 b) hx
  have key : ∀ (i d : Nat), (i : Int) + d = x → h_X9_trips_260 set b v Q K (i + 1) t x (lwF (pgB A S (A 11 b) x) d (i + 1)) k i T := by
    intro i
    induction i with
    | zero =>
      intro d hd
      rw [h_X9_trips_260]
      refine ⟨by unfold zR; omega, fun _ => ?_, fun z => absurd (by omega) z⟩
      rintro _ rfl
      have e : lwF (pgB A S (A 11 b) x) d (((0 : Nat) : Int) + 1) = fgF A S (A 11 b) x := by
        unfold fgF
        rw [show x.toNat = d by omega]
        rfl
      rw [e]
      exact hq
    | succ i ih =>
      intro d hd
      have ihn := ih (d + 1) (by omega)
      rw [lwF] at ihn
      have hg : ms 7 ((i : Int) + 1) := ⟨by omega, by show (i : Int) + 1 < 128; omega⟩
      have la := laS_R hA S ((i : Int) + 1) (n := (A 0 0).toNat) (by omega)
      have ei : ((i + 1 : Nat) : Int) = (i : Int) + 1 := by omega
      have em : ((i : Int) + 1) + (-1) = i := by omega
      rw [ei]
      have no : ¬ pgB A S (A 11 b) x (i + 1) = true → b_X9_trips_331 set b v Q K (h_X9_trips_260 set b v Q K (i + 1)) t x (lwF (pgB A S (A 11 b) x) d (i + 1 + 1)) k (i + 1) T := fun z => by
        rw [if_neg z] at ihn
        show h_X9_trips_260 set b v Q K (i + 1) t x _ k ((i : Int) + 1 + (-1)) T
        rw [em]
        exact ihn
      have nov : tvB A S (A 11 b) x (i + 1) = false → b_X9_trips_294 set b v Q K (h_X9_trips_260 set b v Q K (i + 1)) t x (lwF (pgB A S (A 11 b) x) d (i + 1 + 1)) k (i + 1) T := fun z => by
        refine ⟨fun _ => no ?_, fun w => absurd w (by decide)⟩
        unfold pgB
        rw [z]
        simp
      rw [h_X9_trips_260]
      refine ⟨by unfold zR; omega, fun z => absurd z (by omega), fun _ => ⟨zR_to _, fun z => nov (decide_eq_false (fun w => z w.1)), fun z => ?_⟩⟩
      have hs := (ms7_sub hg hx).mp z
      refine sp9_together hA hL hw (ms_up hg (by decide)) ?_
      rw [hL.2.2.2.2.2.2.2.2 b b0 b1]
      refine ⟨b0, by omega, by unfold zR; omega, by unfold zR; omega, fun z2 => nov (decide_eq_false (fun w => absurd w.2 (by omega))), fun z2 => ?_⟩
      have tv : tvB A S (A 11 b) x (i + 1) = true := decide_eq_true ⟨z, by omega⟩
      have dl := df_lt hx hg (by omega) hs
      have d7 := tgF_7 (A := A) (S := S) (br := A 11 b) (df_b hx hg).1
      have e : T 13 34 (zand x (zxor ((i : Int) + 1) (-1))) = b99 (tgF A S (A 11 b) (df x (i + 1))) := hT (df x (i + 1)) dl.1 (by omega)
      refine ⟨fun w => absurd w (by decide), fun _ => ⟨dl.1, by show df x (i + 1) < 128; omega, x7.1, x7.2, ?_⟩⟩
      rw [e, hT x x7.1 (Int.le_refl _)]
      have d9 := b99_R d7
      have x9 := b99_R x8
      have iff : b99 (tgF A S (A 11 b) (df x (i + 1))) = b99 (tgF A S (A 11 b) x) - 1 ↔ tgF A S (A 11 b) (df x (i + 1)) = tgF A S (A 11 b) x - 1 := by
        unfold b99
        split <;> split <;> omega
      refine ⟨by unfold zR; omega, by unfold zR; omega, fun w => no (fun w2 => ?_), fun w => ?_⟩
      · unfold pgB at w2
        rw [Bool.and_eq_true] at w2
        exact w (iff.mpr (of_decide_eq_true w2.2))
      · rw [if_pos (by unfold pgB; rw [tv, decide_eq_true (iff.mp w)]; rfl)] at ihn
        show h_X9_trips_260 set b v Q K (i + 1) t x ((i : Int) + 1) k ((i : Int) + 1 + (-1)) T
        rw [em]
        exact ihn
  have := key x.toNat 0 (by omega)
  rw [lwF, show ((x.toNat : Nat) : Int) = x by omega] at this
  exact ⟨_, this⟩
theorem sp9_trips {A : LA} {S : HA} {T : TH} {M set b v : Int} (hA : LAok A) (hL : LandM T A) (hM : M ≤ 1000000) (hS : HAok A S M) (hH : HeadM T 26 0 S) (hs : isP A set) (b0 : 0 ≤ b) (b1 : b < A 3 0) (hv : zR v) {Q : Int → TH → Prop} (hq : ∀ T', (∀ (o j : Nat) (i : Int), ¬ (o = 13 ∧ (j = 34 ∨ j = 37)) → T' o j i = T o j i) → Q (trA A S (A 11 b) set v) T') : ∃ n, h_X9_trips_22 set b v Q n 0 T := by
  have n0 := hA.1
  have sn := isP_ms hs
  have s7 : ms 7 set := ms_up sn (by omega)
  have s128 : 0 ≤ set ∧ set < 128 := s7
  have eN : ((2 ^ (A 0 0).toNat : Nat) : Int) = (2 : Int) ^ (A 0 0).toNat := by simp
  have p128 : (2 : Nat) ^ (A 0 0).toNat ≤ 128 := Nat.pow_le_pow_right (n := 2) (by decide) (show (A 0 0).toNat ≤ 7 by omega)
  have sN := hs.2
  have t8 := tgF_7 (A := A) (S := S) (br := A 11 b) s7
  have finish : ∀ T1 : TH, WtR T1 A S → (∀ y, 0 ≤ y → y < ((2 ^ (A 0 0).toNat : Nat) : Int) → T1 13 34 y = b99 (tgF A S (A 11 b) y)) → (∀ (o j : Nat) (i : Int), ¬ (o = 13 ∧ (j = 34 ∨ j = 37)) → T1 o j i = T o j i) → (0 ≤ set ∧ set < 128 ∧ ∀ w1 : Int, w1 = (T1 13 34 set) → zR w1 ∧ (99 ≤ w1 → (b_X9_trips_217 set b v Q w1 T1)) ∧ (¬ (99 ≤ w1) → (zR v ∧ (¬ v = (-1) → ((∃ m9 : Nat, h_X9_trips_240 set b v Q m9 w1 set (-1) 0 T1))) ∧ (v = (-1) → (b_X9_trips_217 set b v Q w1 T1))))) := by
    intro T1 hW hB hF
    have l1 : LandM T1 A := hL.off (fun j x hj => hF _ _ _ (by omega))
    refine ⟨s128.1, s128.2, ?_⟩
    rintro _ rfl
    rw [hB set s128.1 (by omega)]
    have q9 := b99_R t8
    have hq := hq T1 hF
    refine ⟨by unfold zR; omega, fun z => ⟨by unfold zR; omega, fun w => absurd z (by omega), fun _ => ?_⟩, fun z => ⟨hv, fun w => ?_, fun w => ⟨by unfold zR; omega, fun _ => ?_, fun w2 => absurd w2 (by omega)⟩⟩⟩
    · have e : tgF A S (A 11 b) set = -1 := by
        unfold b99 at z
        split at z <;> omega
      unfold trA at hq
      rw [e] at hq
      by_cases w : v = -1
      · rwa [if_pos w] at hq
      · rwa [if_neg w, if_neg (by omega)] at hq
    · have e : tgF A S (A 11 b) set ≠ -1 ∧ b99 (tgF A S (A 11 b) set) = tgF A S (A 11 b) set := by
        unfold b99 at z ⊢
        split at z
        · omega
        · rename_i h
          exact ⟨h, if_neg h⟩
      rw [e.2]
      unfold trA at hq
      rw [if_neg w] at hq
      have key : ∀ (d k : Nat) (fd : Int), k + d = (tgF A S (A 11 b) set).toNat → ((k : Int) ≤ v + 1 ∨ k = 0) → (1 ≤ k → fd = fgF A S (A 11 b) (lfF A S (A 11 b) set (k - 1))) → h_X9_trips_240 set b v Q (d + 1) (tgF A S (A 11 b) set) (lfF A S (A 11 b) set k) fd k T1 := by
        intro d k fd
        have leave : (v < (k : Int) ∨ tgF A S (A 11 b) set ≤ k) → k ≤ (tgF A S (A 11 b) set).toNat → ((k : Int) ≤ v + 1 ∨ k = 0) → (1 ≤ k → fd = fgF A S (A 11 b) (lfF A S (A 11 b) set (k - 1))) → b_X9_trips_356 set b v Q (tgF A S (A 11 b) set) fd T1 := by
          intro h1 hk h2 h3
          unfold b_X9_trips_356
          refine sp9_in hv z0 (by unfold zR; omega) ?_
          refine dec_ft (fun q => ?_) (fun q => ?_)
          · rwa [if_neg (by omega)] at hq
          · have : k = v.toNat + 1 := by omega
            rw [if_pos (by omega)] at hq
            rw [h3 (by omega), show k - 1 = v.toNat by omega]
            exact hq
        induction d generalizing k fd with
        | zero =>
          intro hk kv hfd
          rw [h_X9_trips_240]
          exact ⟨by unfold zR; omega, hv, fun z => leave (Or.inl z) (by omega) kv hfd, fun z => ⟨by unfold zR; omega, by unfold zR; omega, fun z2 => leave (Or.inr z2) (by omega) kv hfd, fun z2 => absurd (by omega) z2⟩⟩
        | succ d ih =>
          intro hk kv hfd
          rw [h_X9_trips_240]
          refine ⟨by unfold zR; omega, hv, fun z => leave (Or.inl z) (by omega) kv hfd, fun z => ⟨by unfold zR; omega, by unfold zR; omega, fun z2 => leave (Or.inr z2) (by omega) kv hfd, fun z2 => ?_⟩⟩
          obtain ⟨q1, q2, q3⟩ := lf_ok (A := A) (S := S) (br := A 11 b) s7 k (by omega)
          have le := sub_le q1 s128.1 q2
          refine sp9_search hA l1 hW b0 b1 q1 (fun y y0 y1 => hB y y0 (by omega)) (by omega) ?_
          refine ih (k + 1) _ (fun h1 hk h2 h3 => ?_) (by omega) (by omega) (fun _ => rfl)
          unfold b_X9_trips_356
          refine sp9_in hv z0 (by unfold zR; omega) ?_
          refine dec_ft (fun q => ?_) (fun q => ?_)
          · rwa [if_neg (by omega)] at hq
          · have : k + 1 = v.toNat + 1 := by omega
            rw [if_pos (by omega)] at hq
            rw [show v.toNat = k by omega] at hq
            exact hq
      exact ⟨_, key (tgF A S (A 11 b) set).toNat 0 (-1) (by omega) (Or.inr rfl) (fun h => by omega)⟩
    · have e : tgF A S (A 11 b) set ≠ -1 ∧ b99 (tgF A S (A 11 b) set) = tgF A S (A 11 b) set := by
        unfold b99 at z ⊢
        split at z
        · omega
        · rename_i h
          exact ⟨h, if_neg h⟩
      unfold trA at hq
      rw [if_pos w] at hq
      rw [e.2]
      exact hq
  have rows : ∀ (d i : Nat) (T1 : TH), i + d = 2 ^ (A 0 0).toNat → WtR T1 A S → (∀ y, 0 ≤ y → y < (i : Int) → T1 13 34 y = b99 (tgF A S (A 11 b) y)) → (∀ (o j : Nat) (i : Int), ¬ (o = 13 ∧ (j = 34 ∨ j = 37)) → T1 o j i = T o j i) → h_X9_trips_57 set b v Q (d + 1) i T1 := by
    intro d
    induction d with
    | zero =>
      intro i T1 hi hW hB hF
      rw [h_X9_trips_57, hF 13 17 0 (by omega), hL.1, zshl_b (by omega) (by omega)]
      exact ⟨by unfold zR; omega, by unfold zR; omega, fun _ => finish T1 hW (fun y y0 y1 => hB y y0 (by omega)) hF, fun z => absurd (by omega) z⟩
    | succ d ih =>
      intro i T1 hi hW hB hF
      have i7 : ms 7 (i : Int) := ⟨by omega, by show (i : Int) < 128; omega⟩
      have l1 : LandM T1 A := hL.off (fun j x hj => hF _ _ _ (by omega))
      have go : ∀ c : Int, c = (if (i : Int) = 0 then 0 else 99) → b_X9_trips_85 set b v Q (h_X9_trips_57 set b v Q (d + 1)) i i c T1 := by
        rintro c hc
        refine ⟨by omega, by omega, ?_⟩
        rintro _ rfl
        refine sp9_row hA (l1.off (fun j x hj => up_ne (by omega))) (fun p p0 p1 => by rw [up_ne (by omega)]; exact hW p p0 p1) b0 b1 i7 (fun y y0 y1 => by rw [up_ne (by omega)]; exact hB y y0 y1) (by rw [up_eq]; exact hc) (fun T' x1 x2 => ?_)
        refine ih (i + 1) T' (by omega) (fun p p0 p1 => by rw [x2 _ _ _ (by omega), up_ne (by omega)]; exact hW p p0 p1) (fun y y0 y1 => ?_) (fun o j y hn => by rw [x2 _ _ _ (by omega), up_ne (by omega), hF _ _ _ hn])
        by_cases e : y = i
        · subst e
          exact x1
        · rw [x2 _ _ _ (by omega), up_ne (by omega)]
          exact hB y y0 (by omega)
      rw [h_X9_trips_57, hF 13 17 0 (by omega), hL.1, zshl_b (by omega) (by omega)]
      exact ⟨by unfold zR; omega, by unfold zR; omega, fun z => absurd z (by omega), fun _ => ⟨by unfold zR; omega, fun z => go 99 (by rw [if_neg z]), fun z => go 0 (by rw [if_pos z])⟩⟩
  have key : ∀ (d i : Nat) (T1 : TH), i + d = (A 0 0).toNat → (∀ p, 0 ≤ p → p < (i : Int) → T1 13 37 p = wtS A S p) → (∀ (o j : Nat) (i : Int), ¬ (o = 13 ∧ (j = 34 ∨ j = 37)) → T1 o j i = T o j i) → h_X9_trips_22 set b v Q (d + 1) i T1 := by
    intro d
    induction d with
    | zero =>
      intro i T1 hi hW hF
      rw [h_X9_trips_22, hF 13 17 0 (by omega), hL.1]
      refine ⟨by unfold zR; omega, by unfold zR; omega, fun _ => ⟨_, rows (2 ^ (A 0 0).toNat) 0 T1 (by omega) (fun p p0 p1 => hW p p0 (by omega)) (fun y y0 y1 => by omega) hF⟩, fun z => absurd (by omega) z⟩
    | succ d ih =>
      intro i T1 hi hW hF
      rw [h_X9_trips_22, hF 13 17 0 (by omega), hL.1]
      refine ⟨by unfold zR; omega, by unfold zR; omega, fun z => absurd z (by omega), fun _ => ?_⟩
      refine sp9_weightOf hA (hL.off (fun j x hj => hF _ _ _ (by omega))) hM hS (hH.eq (fun _ _ _ => hF _ _ _ (by omega))) (by unfold zR; omega) ⟨by omega, by omega, ?_⟩
      rintro _ rfl
      refine ih (i + 1) _ (by omega) (fun p p0 p1 => ?_) (fun o j y hn => by rw [up_ne (by omega), hF _ _ _ hn])
      by_cases e : p = i
      · subst e
        rw [up_eq]
      · rw [up_ne (by omega)]
        exact hW p p0 (by omega)
  exact ⟨_, key (A 0 0).toNat 0 T (by omega) (fun p p0 p1 => by omega) (fun _ _ _ _ => rfl)⟩
theorem st_trips {T : TH} (H : Inv T) {x b v : Int} (hx : zR x) (hb : zR b) (hv : zR v) : wp_X8_trips x b v T (fun r1 T1 => wp_X9_trips x b v T1 (fun r2 T2 => r1 = r2 ∧ zR r1 ∧ Inv T2)) := by
  obtain ⟨A, S, h⟩ := H
  have h0 := h
  obtain ⟨a1, a2, a3, a4, a5, a6, a7, a8, a9, a10, a11, a12⟩ := h
  have h23 := lOK_23 a1
  have n0 := a3.1
  have n3 := a3.2.2.2.1
  have unk : ¬ (isP A x ∧ (0 ≤ b ∧ b < A 3 0)) → wp_X9_trips x b v T (fun r2 T2 => -1000000001 = r2 ∧ zR (-1000000001) ∧ Inv T2) := by
    intro hno
    unfold wp_X9_trips
    refine sp9_isSet a3 a5 hx (fun q1 => ⟨fun z => absurd z (by decide), fun _ => ?_⟩) (fun q1 => ⟨fun _ => ⟨rfl, zRu, A, S, h0⟩, fun z => absurd z (by decide)⟩)
    refine sp9_isBridge a3 a5 hb ?_
    exact dec_tf (fun q2 => absurd ⟨q1, q2⟩ hno) (fun _ => ⟨rfl, zRu, A, S, h0⟩)
  unfold wp_X8_trips
  refine sp_hasPeople a3 a6 hx (fun q1 => ⟨fun z => absurd z (by decide), fun _ => ?_⟩) (fun q1 => ⟨fun _ => unk (fun z => q1 z.1), fun z => absurd z (by decide)⟩)
  refine sp_hasBridge a3 a6 hb ?_
  refine dec_tf (fun q2 => ⟨q2.1, by omega, ?_⟩) (fun q2 => unk (fun z => q2 z.2))
  have nb := a3.2.2.2.2.2.2.2.2 b q2.1 q2.2
  have br : zR (A 11 b) := by unfold zR; omega
  have s7 : ms 7 x := ms_up (isP_ms q1) (by omega)
  have s128 : 0 ≤ x ∧ x < 128 := s7
  have t8 := tgF_7 (A := A) (S := S) (br := A 11 b) s7
  rw [a6.2.2.2.2.2.2.2.2.2.2.2 b q2.1 q2.2]
  refine sp_plan a3 h23 a6 a4 a8 q1 br (fun T1 c1 c2 c3 => ?_)
  have rr : zR (trA A S (A 11 b) x v) := by
    unfold trA zR
    split
    · omega
    · split
      · rename_i w1 w2
        obtain ⟨l1, l2, l3⟩ := lf_ok (A := A) (S := S) (br := A 11 b) s7 v.toNat (by omega)
        obtain ⟨g0, g1, g2, g3⟩ := fg_ok l1 (by omega : 1 ≤ tgF A S (A 11 b) (lfF A S (A 11 b) x v.toNat))
        have l1' : lfF A S (A 11 b) x v.toNat < 128 := l1.2
        omega
      · decide
  have m1 : LandM T1 A := a5.off (fun j i hj => c3 _ _ _ (by omega))
  have k1 : HeadM T1 26 0 S := a7.eq (fun _ _ _ => c3 _ _ _ (by omega))
  have ref : wp_X9_trips x b v T1 (fun r2 T2 => trA A S (A 11 b) x v = r2 ∧ zR (trA A S (A 11 b) x v) ∧ Inv T2) := by
    unfold wp_X9_trips
    refine sp9_isSet a3 m1 hx (fun _ => ⟨fun z => absurd z (by decide), fun _ => ?_⟩) (fun z => absurd q1 z)
    refine sp9_isBridge a3 m1 hb ?_
    refine dec_tf (fun _ => ?_) (fun z => absurd q2 z)
    refine sp9_trips a3 m1 (by decide) a4 k1 q1 q2.1 q2.2 hv (fun T2 x1 => ⟨rfl, rr, A, S, h0.fr (fun o j i hs => ?_)⟩)
    have z1 : ¬ o = 9 := fun z => hs (by unfold scr; omega)
    have z2 : ¬ (o = 13 ∧ (j = 34 ∨ j = 37)) := fun z => hs (by unfold scr; omega)
    rw [x1 _ _ _ z2, c3 _ _ _ z1]
  refine ⟨hv, fun w => ?_, fun w => ⟨s128.1, s128.2, ?_⟩⟩
  · exact sp_group a3 br s7 hv w c1 c2 ref
  · rw [(c1 x s128.1 (Int.le_refl _) (fun _ _ h => h)).2]
    have e : trA A S (A 11 b) x v = tgF A S (A 11 b) x := by
      unfold trA
      rw [if_pos w]
    rw [e] at ref
    exact ref
