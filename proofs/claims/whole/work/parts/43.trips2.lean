/-! ferries: the class -/
theorem low2_all : ∀ n : Nat, n < 128 → n ≠ 0 → ∃ q : Nat, q < 7 ∧ zand (n : Int) (-(n : Int)) = zshl 1 (q : Int) ∧ zand (n : Int) ((n : Int) - 1) = zand (n : Int) (zxor (zshl 1 (q : Int)) (-1)) ∧ n.testBit q = true := by decide +kernel
theorem low2_b {s : Int} (h : ms 7 s) (hn : s ≠ 0) : ∃ q : Int, 0 ≤ q ∧ q < 7 ∧ zand s (-s) = zshl 1 q ∧ zand s (s - 1) = df s (zshl 1 q) ∧ bt s q = true := by
  have h0 := h.1
  have h1 : s < 128 := h.2
  obtain ⟨q, q1, q2, q3, q4⟩ := low2_all s.toNat (by omega) (by omega)
  rw [Int.toNat_of_nonneg h0] at q2 q3
  exact ⟨q, by omega, by omega, q2, q3, q4⟩
theorem sZ_diff {f g : Int → Int} {q : Int} : ∀ {n : Nat}, 0 ≤ q → q < n → (∀ i : Int, 0 ≤ i → i < n → i ≠ q → f i = g i) → sZ f n = sZ g n + (f q - g q)
  | 0, h0, h1, _ => by omega
  | n + 1, h0, h1, h => by
    rw [sZ, sZ]
    by_cases e : q = n
    · subst e
      rw [sZ_congr (f := f) (g := g) (n := n) (fun i i0 i1 => h i i0 (by omega) (by omega))]
      omega
    · rw [sZ_diff (f := f) (g := g) (n := n) h0 (by omega) (fun i i0 i1 => h i i0 (by omega)), h n (by omega) (by omega) (by omega)]
      omega
theorem one_bt {q k : Int} (q0 : 0 ≤ q) (q1 : q < 7) (k0 : 0 ≤ k) : bt (zshl 1 q) k = decide (k = q) := shl_bt q0 (by omega) k0
theorem laS_split {A : LA} {S : HA} {x q : Int} {n : Nat} (hx : ms 7 x) (q0 : 0 ≤ q) (q1 : q < n) (q7 : q < 7) (hb : bt x q = true) : laS A S x n = laS A S (df x (zshl 1 q)) n + wtS A S q := by
  obtain ⟨d1, d2⟩ := df_b hx (shl_ms q0 (show q < (7 : Nat) by omega) (by decide))
  unfold laS
  rw [sZ_diff (g := fun p => if bt (df x (zshl 1 q)) p = true then wtS A S p else 0) q0 q1 (fun i i0 i1 ne => by
    show (if bt x i = true then wtS A S i else 0) = (if bt (df x (zshl 1 q)) i = true then wtS A S i else 0)
    rw [d2 i, one_bt q0 q7 i0, decide_eq_false ne]
    simp)]
  show _ + ((if bt x q = true then wtS A S q else 0) - (if bt (df x (zshl 1 q)) q = true then wtS A S q else 0)) = _
  rw [if_pos hb, d2 q, one_bt q0 q7 q0, decide_eq_true rfl, hb, if_neg (by decide)]
  omega
theorem laS_0 (A : LA) (S : HA) (n : Nat) : laS A S 0 n = 0 := sZ_zero (fun i _ _ => by rw [bt_0]; rfl)
theorem laS_one {A : LA} {S : HA} {q : Int} {n : Nat} (q0 : 0 ≤ q) (q1 : q < n) (q7 : q < 7) : laS A S (zshl 1 q) n = wtS A S q := by
  have m := shl_ms q0 (show q < (7 : Nat) by omega) (by decide)
  have e : df (zshl 1 q) (zshl 1 q) = 0 := by
    obtain ⟨d1, d2⟩ := df_b m m
    refine ms_ext d1 (ms_0 7) (fun k k0 _ => ?_)
    rw [d2 k, bt_0]
    simp
  rw [laS_split m q0 q1 q7 (by rw [one_bt q0 q7 q0]; exact decide_eq_true rfl), e, laS_0, Int.zero_add]
theorem sp_plan {A : LA} {S : HA} {T : TH} {o : Nat} {M set br : Int} (hA : LAok A) (ho : o = 2 ∨ o = 3) (hC : LandC T o A) (hS : HAok A S M) (hH : HeadC T 4 S) (hs : isP A set) (hb : zR br) {Q : TH → Prop} (hq : ∀ T', (∀ y, 0 ≤ y → y ≤ set → subB y set → T' 9 1 y = laS A S y (A 0 0).toNat ∧ T' 9 0 y = tgF A S br y) → T' 9 2 0 = br → (∀ o' j i, ¬ o' = 9 → T' o' j i = T o' j i) → Q T') : wp_X1_plan o 4 set br T Q := by
  have n0 := hA.1
  have sn := isP_ms hs
  have s7 : ms 7 set := ms_up sn (by omega)
  have s128 : 0 ≤ set ∧ set < 128 := s7
  unfold wp_X1_plan
  intro T1 hT1
  have parts : ∀ (d i : Nat) (T2 : TH), (i : Int) + d = set + 1 → 1 ≤ i → T2 9 2 0 = br → T2 9 1 0 = 0 → (∀ p, 0 ≤ p → p < A 0 0 → T2 9 1 (zshl 1 p) = wtS A S p) → (∀ y, 0 ≤ y → y < (i : Int) → subB y set → T2 9 1 y = laS A S y (A 0 0).toNat ∧ T2 9 0 y = tgF A S br y) → (∀ o' j i, ¬ o' = 9 → T2 o' j i = T o' j i) → h_X1_plan_57 o 4 set br Q (d + 1) i T2 := by
    intro d
    induction d with
    | zero =>
      intro i T2 hi i1 k1 k2 k3 k4 k5
      rw [h_X1_plan_57]
      exact ⟨by unfold zR; omega, by unfold zR; omega, fun _ => hq T2 (fun y y0 y1 => k4 y y0 (by omega)) k1 k5, fun z => absurd (by omega) z⟩
    | succ d ih =>
      intro i T2 hi i1 k1 k2 k3 k4 k5
      have i7 : ms 7 (i : Int) := ⟨by omega, by show (i : Int) < 128; omega⟩
      rw [h_X1_plan_57]
      refine ⟨by unfold zR; omega, by unfold zR; omega, fun z => absurd z (by omega), fun _ => ⟨zR_to _, fun z => ?_, fun z => ?_⟩⟩
      · refine ih (i + 1) T2 (by omega) (by omega) k1 k2 k3 (fun y y0 y1 hy => ?_) k5
        by_cases e : y = i
        · subst e
          exact absurd ((ms7_sub i7 s7).mpr hy) z
        · exact k4 y y0 (by omega) hy
      · have sub := (ms7_sub i7 s7).mp z
        have inn := sub_ms7 (by omega) i7 sn sub
        obtain ⟨q, q0, q1, q2, q3, q4⟩ := low2_b i7 (by omega)
        have qn : q < A 0 0 := by
          by_cases w : q < A 0 0
          · exact w
          · rw [bt_big inn (by omega)] at q4
            exact absurd q4 (by decide)
        have m1 : ms 7 (zshl 1 q) := shl_ms q0 (by omega) (by decide)
        have osub : subB (zshl 1 q) i := fun k k0 hk => by
          rw [one_bt q0 q1 k0] at hk
          have := of_decide_eq_true hk
          subst this
          exact q4
        have nz : zshl 1 q ≠ 0 := bt_nz (k := q) (by rw [one_bt q0 q1 q0]; exact decide_eq_true rfl)
        have dl := df_lt i7 m1 nz osub
        have m128 : 0 ≤ zshl 1 q ∧ zshl 1 q < 128 := m1
        rw [q2, q3, k3 q q0 qn, (k4 _ dl.1 dl.2.1 ((df_sub i7 m1).tr sub)).1, ← laS_split i7 q0 (by omega) q1 q4]
        refine ⟨dl.1, by omega, m128.1, m128.2, by omega, by omega, ?_⟩
        rintro _ rfl
        refine sp_fewestOf (S := S) hA hb i7 (by omega) (fun g g0 g1 gs => ?_) (by rw [up_ne (by omega)]; exact k1) (fun y y0 y1 ys => ?_) ⟨by omega, by omega, ?_⟩
        · by_cases e : g = i
          · subst e
            rw [up_eq]
          · rw [up_ne (by omega)]
            exact (k4 g (by omega) (by omega) (gs.tr sub)).1
        · rw [up_ne (by omega)]
          exact (k4 y y0 y1 (ys.tr sub)).2
        rintro _ rfl
        refine ih (i + 1) _ (by omega) (by omega) ?_ ?_ (fun p p0 p1 => ?_) (fun y y0 y1 hy => ?_) (fun o' j x hn => ?_)
        · rw [up_ne (by omega), up_ne (by omega)]
          exact k1
        · rw [up_ne (by omega), up_ne (by omega)]
          exact k2
        · rw [up_ne (by omega)]
          by_cases e : zshl 1 p = i
          · rw [e, up_eq, ← e]
            exact laS_one p0 (by omega) (by omega)
          · rw [up_ne (by omega)]
            exact k3 p p0 p1
        · by_cases e : y = i
          · subst e
            rw [up_ne (by omega), up_eq, up_eq]
            exact ⟨rfl, rfl⟩
          · rw [up_ne (by omega), up_ne (by omega), up_ne (by omega), up_ne (by omega)]
            exact k4 y y0 (by omega) hy
        · rw [up_ne (by omega), up_ne (by omega)]
          exact k5 _ _ _ hn
  have key : ∀ (d i : Nat) (T2 : TH), i + d = (A 0 0).toNat → T2 9 2 0 = br → (∀ p, 0 ≤ p → p < (i : Int) → T2 9 1 (zshl 1 p) = wtS A S p) → (∀ o' j i, ¬ o' = 9 → T2 o' j i = T o' j i) → h_X1_plan_9 o 4 set br Q (d + 1) i T2 := by
    intro d
    induction d with
    | zero =>
      intro i T2 hi k1 k2 k3
      rw [h_X1_plan_9, k3 o 0 0 (by omega), hC.1]
      refine ⟨by unfold zR; omega, by unfold zR; omega, fun _ => ?_, fun z => absurd (by omega) z⟩
      rintro _ rfl _ rfl
      refine ⟨set.toNat + 1, ?_⟩
      have := parts set.toNat 1 (up (up T2 9 1 0 0) 9 0 0 0) (by omega) (by omega) (by rw [up_ne (by omega), up_ne (by omega)]; exact k1) (by rw [up_ne (by omega), up_eq]) (fun p p0 p1 => ?_) (fun y y0 y1 _ => ?_) (fun o' j x hn => by rw [up_ne (by omega), up_ne (by omega), k3 _ _ _ hn])
      · exact this
      · have : zshl 1 p ≠ 0 := bt_nz (k := p) (by rw [one_bt p0 (by omega) p0]; exact decide_eq_true rfl)
        rw [up_ne (by omega), up_ne (by omega)]
        exact k2 p p0 (by omega)
      · have : y = 0 := by omega
        subst this
        rw [up_ne (by omega), up_eq, up_eq, laS_0, tgF_0]
        exact ⟨rfl, rfl⟩
    | succ d ih =>
      intro i T2 hi k1 k2 k3
      rw [h_X1_plan_9, k3 o 0 0 (by omega), hC.1]
      refine ⟨by unfold zR; omega, by unfold zR; omega, fun z => absurd z (by omega), fun _ => ?_⟩
      have l2 : LandC T2 o A := hC.off (fun j x => k3 _ _ _ (by omega))
      have h2 : HeadC T2 4 S := hH.eq (k3 _ _ _ (by omega)) (k3 _ _ _ (by omega)) (fun _ _ _ => k3 _ _ _ (by omega)) (fun _ _ _ => k3 _ _ _ (by omega))
      have m1 : ms 7 (zshl 1 (i : Int)) := shl_ms (by omega) (by omega) (by decide)
      refine sp_load hA l2 hS h2 (by omega) (by omega) ⟨m1.1, m1.2, ?_⟩
      rintro _ rfl
      refine ih (i + 1) _ (by omega) (by rw [up_ne (by omega)]; exact k1) (fun p p0 p1 => ?_) (fun o' j x hn => by rw [up_ne (by omega), k3 _ _ _ hn])
      by_cases e : p = i
      · subst e
        rw [up_eq]
      · have ne : zshl 1 p ≠ zshl 1 (i : Int) := fun z => by
          have w := one_bt (q := p) (k := p) p0 (by omega) p0
          rw [z, one_bt (by omega) (by omega) p0, decide_eq_true rfl] at w
          exact e (of_decide_eq_true w)
        rw [up_ne (by omega)]
        exact k2 p p0 (by omega)
  refine ⟨(A 0 0).toNat + 1, ?_⟩
  exact key (A 0 0).toNat 0 T1 (by omega) (by rw [hT1, up_eq]) (fun p p0 p1 => by omega) (fun o' j x hn => by rw [hT1, up_ne (by omega)])
def lwF (P : Int → Bool) : Nat → Int → Int
  | 0, _ => -1
  | d + 1, i => if P i = true then i else lwF P d (i + 1)
theorem lwF_ex {P : Int → Bool} : ∀ {d : Nat} {i g : Int}, i ≤ g → g < i + d → P g = true → i ≤ lwF P d i ∧ lwF P d i < i + d ∧ P (lwF P d i) = true
  | 0, i, g, h0, h1, _ => by omega
  | d + 1, i, g, h0, h1, hg => by
    rw [lwF]
    by_cases e : P i = true
    · rw [if_pos e]
      exact ⟨Int.le_refl _, by omega, e⟩
    · rw [if_neg e]
      have ne : g ≠ i := fun z => e (z ▸ hg)
      have := lwF_ex (P := P) (d := d) (i := i + 1) (g := g) (by omega) (by omega) hg
      exact ⟨by omega, by omega, this.2.2⟩
def pgB (A : LA) (S : HA) (br x g : Int) : Bool := tvB A S br x g && decide (tgF A S br (df x g) = tgF A S br x - 1)
def fgF (A : LA) (S : HA) (br x : Int) : Int := lwF (pgB A S br x) x.toNat 1
def lfF (A : LA) (S : HA) (br set : Int) : Nat → Int
  | 0 => set
  | k + 1 => df (lfF A S br set k) (fgF A S br (lfF A S br set k))
theorem fg_ok {A : LA} {S : HA} {br x : Int} (hx : ms 7 x) (h1 : 1 ≤ tgF A S br x) : 1 ≤ fgF A S br x ∧ fgF A S br x ≤ x ∧ tvB A S br x (fgF A S br x) = true ∧ tgF A S br (df x (fgF A S br x)) = tgF A S br x - 1 := by
  have x0 := hx.1
  have x1 : 1 ≤ x := by
    by_cases e : x = 0
    · subst e
      rw [tgF_0] at h1
      omega
    · omega
  obtain ⟨_, g, g0, g1, g2, g3⟩ := tgF_ex (A := A) (S := S) (br := br) hx x1 (by omega)
  obtain ⟨a, b, c⟩ := lwF_ex (P := pgB A S br x) (d := x.toNat) (i := 1) (g := g) g0 (by omega) (by unfold pgB; rw [g2, decide_eq_true g3]; rfl)
  have c' : pgB A S br x (fgF A S br x) = true := c
  unfold pgB at c'
  rw [Bool.and_eq_true] at c'
  exact ⟨a, by show lwF _ _ _ ≤ x; omega, c'.1, of_decide_eq_true c'.2⟩
theorem lf_ok {A : LA} {S : HA} {br set : Int} (hs : ms 7 set) : ∀ k : Nat, (k : Int) ≤ tgF A S br set → ms 7 (lfF A S br set k) ∧ subB (lfF A S br set k) set ∧ tgF A S br (lfF A S br set k) = tgF A S br set - k
  | 0, _ => ⟨hs, fun _ _ h => h, by show tgF A S br set = _; omega⟩
  | k + 1, hk => by
    obtain ⟨a, b, c⟩ := lf_ok (A := A) (S := S) (br := br) hs k (by omega)
    obtain ⟨g0, g1, g2, g3⟩ := fg_ok a (by omega : 1 ≤ tgF A S br (lfF A S br set k))
    obtain ⟨hg, sg⟩ := tv_sub a g0 g1 g2
    refine ⟨(df_b a hg).1, (df_sub a hg).tr b, ?_⟩
    show tgF A S br (df (lfF A S br set k) (fgF A S br (lfF A S br set k))) = _
    rw [g3, c]
    omega
theorem sp_firstGroup {A : LA} {S : HA} {T : TH} {br x set : Int} (hA : LAok A) (hb : zR br) (hx : ms 7 x) (hs : ms 7 set) (hsub : subB x set) (hl : ∀ y, 0 ≤ y → y ≤ set → subB y set → T 9 1 y = laS A S y (A 0 0).toNat ∧ T 9 0 y = tgF A S br y) (hbr : T 9 2 0 = br) {Q : Int → TH → Prop} (hq : Q (fgF A S br x) T) : wp_X1_firstGroup x T Q := by
  have n0 := hA.1
  have x7 : 0 ≤ x ∧ x < 128 := hx
  have xs := sub_le hx hs.1 hsub
  unfold wp_X1_firstGroup
  have key : ∀ (d : Nat) (i : Int), i + d = x + 1 → 1 ≤ i → Q (lwF (pgB A S br x) d i) T → h_X1_firstGroup_2 x Q (d + 1) i T := by
    intro d
    induction d with
    | zero =>
      intro i hi i1 hq
      rw [h_X1_firstGroup_2]
      exact ⟨by unfold zR; omega, by unfold zR; omega, fun _ => hq, fun z => absurd (by omega) z⟩
    | succ d ih =>
      intro i hi i1 hq
      rw [lwF] at hq
      have hg : ms 7 i := ⟨by omega, by show i < 128; omega⟩
      have la := laS_R hA S i (n := (A 0 0).toNat) (by omega)
      have no : ¬ pgB A S br x i = true → b_X1_firstGroup_59 x Q (h_X1_firstGroup_2 x Q (d + 1)) i T := fun z => by
        rw [if_neg z] at hq
        exact ih (i + 1) (by omega) (by omega) hq
      have nov : tvB A S br x i = false → b_X1_firstGroup_32 x Q (h_X1_firstGroup_2 x Q (d + 1)) i T := fun z => by
        refine ⟨fun _ => no ?_, fun w => absurd w (by decide)⟩
        unfold pgB
        rw [z]
        simp
      rw [h_X1_firstGroup_2]
      refine ⟨by unfold zR; omega, by unfold zR; omega, fun z => absurd z (by omega), fun _ => ⟨zR_to _, fun z => nov (decide_eq_false (fun w => z w.1)), fun z => ?_⟩⟩
      have sub := (ms7_sub hg hx).mp z
      rw [(hl i (by omega) (by omega) (sub.tr hsub)).1, hbr]
      refine ⟨by omega, by omega, by unfold zR; omega, hb, fun z2 => nov (decide_eq_false (fun w => absurd w.2 (by omega))), fun z2 => ?_⟩
      have tv : tvB A S br x i = true := decide_eq_true ⟨z, by omega⟩
      refine ⟨fun w => absurd w (by decide), fun _ => ?_⟩
      have dl := df_lt hx hg (by omega) sub
      have d7 := tgF_7 (A := A) (S := S) (br := br) (df_b hx hg).1
      have x8 := tgF_7 (A := A) (S := S) (br := br) hx
      rw [xor_df hx hg sub, (hl _ dl.1 (by omega) ((df_sub hx hg).tr hsub)).2, (hl x x7.1 xs hsub).2]
      refine ⟨dl.1, by omega, x7.1, x7.2, by unfold zR; omega, by unfold zR; omega, fun w => no (fun w2 => ?_), fun w => ?_⟩
      · unfold pgB at w2
        rw [Bool.and_eq_true] at w2
        exact w (of_decide_eq_true w2.2)
      · rw [if_pos (by unfold pgB; rw [tv, decide_eq_true w]; rfl)] at hq
        exact hq
  exact ⟨x.toNat + 1, key x.toNat 1 (by omega) (by decide) hq⟩
def trA (A : LA) (S : HA) (br set v : Int) : Int := if v = -1 then tgF A S br set else if 0 ≤ v ∧ v < tgF A S br set then fgF A S br (lfF A S br set v.toNat) else -1
theorem sp_group {A : LA} {S : HA} {T : TH} {br set v : Int} (hA : LAok A) (hb : zR br) (hs : ms 7 set) (hv : zR v) (nv : ¬ v = -1) (hl : ∀ y, 0 ≤ y → y ≤ set → subB y set → T 9 1 y = laS A S y (A 0 0).toNat ∧ T 9 0 y = tgF A S br y) (hbr : T 9 2 0 = br) {Q : Int → TH → Prop} (hq : Q (trA A S br set v) T) : wp_X1_group set v T Q := by
  have s7 : 0 ≤ set ∧ set < 128 := hs
  have x8 := tgF_7 (A := A) (S := S) (br := br) hs
  unfold wp_X1_group
  unfold trA at hq
  rw [if_neg nv] at hq
  have key : ∀ (d k : Nat), k + d = (tgF A S br set).toNat → ((k : Int) ≤ v ∨ k = 0) → h_X1_group_5 set v Q (d + 1) (lfF A S br set k) k T := by
    intro d
    induction d with
    | zero =>
      intro k hk kv
      rw [h_X1_group_5, (hl set s7.1 (Int.le_refl _) (fun _ _ h => h)).2]
      refine ⟨by unfold zR; omega, hv, fun z => ?_, fun z => ⟨s7.1, s7.2, by unfold zR; omega, by unfold zR; omega, fun z2 => ?_, fun z2 => absurd (by omega) z2⟩⟩
      · rwa [if_neg (by omega)] at hq
      · rwa [if_neg (by omega)] at hq
    | succ d ih =>
      intro k hk kv
      obtain ⟨l1, l2, l3⟩ := lf_ok (A := A) (S := S) (br := br) hs k (by omega)
      rw [h_X1_group_5, (hl set s7.1 (Int.le_refl _) (fun _ _ h => h)).2]
      refine ⟨by unfold zR; omega, hv, fun z => ?_, fun z => ⟨s7.1, s7.2, by unfold zR; omega, by unfold zR; omega, fun z2 => absurd z2 (by omega), fun z2 => ?_⟩⟩
      · rwa [if_neg (by omega)] at hq
      · refine sp_firstGroup hA hb l1 hs l2 hl hbr ⟨by unfold zR; omega, hv, fun w => ?_, fun w => ?_⟩
        · rintro _ rfl
          exact ih (k + 1) (by omega) (by omega)
        · rw [if_pos (by omega), ← w, show ((k : Int)).toNat = k by omega] at hq
          exact hq
  exact ⟨_, key (tgF A S br set).toNat 0 (by omega) (Or.inr rfl)⟩
