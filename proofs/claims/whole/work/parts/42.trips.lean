/-! ferries: the fewest groups -/
def df (x g : Int) : Int := zand x (zxor g (-1))
theorem df_b {x g : Int} (hx : ms 7 x) (hg : ms 7 g) : ms 7 (df x g) ∧ ∀ k, bt (df x g) k = (bt x k && !bt g k) :=
  ⟨andn_ms hx (ms_up hg (by decide)) (by decide), (zandn_b (ms_up hx (by decide)) (ms_up hg (by decide))).2⟩
theorem ms7_sub {g x : Int} (hg : ms 7 g) (hx : ms 7 x) : zand g (zxor x (-1)) = 0 ↔ subB g x := src_sub (n := 7) (by decide) hg hx
theorem nz_bit {g : Int} (hg : ms 7 g) (h : g ≠ 0) : ∃ k, 0 ≤ k ∧ k < 7 ∧ bt g k = true := by
  obtain ⟨q, q0, q1, q2, q3, q4⟩ := low_b hg h
  exact ⟨q, q0, q1, q3⟩
theorem df_sub {x g : Int} (hx : ms 7 x) (hg : ms 7 g) : subB (df x g) x := fun k _ h => by
  rw [(df_b hx hg).2 k, Bool.and_eq_true] at h
  exact h.1
theorem df_lt {x g : Int} (hx : ms 7 x) (hg : ms 7 g) (h0 : g ≠ 0) (hs : subB g x) : 0 ≤ df x g ∧ df x g < x ∧ pcn (df x g) 7 + 1 ≤ pcn x 7 := by
  obtain ⟨d1, d2⟩ := df_b hx hg
  obtain ⟨k, k0, k1, k2⟩ := nz_bit hg h0
  have e1 : bt (df x g) k = false := by
    rw [d2 k, k2]
    simp
  have e2 := hs k k0 k2
  have le := sub_le d1 hx.1 (df_sub hx hg)
  refine ⟨d1.1, ?_, pcn_lt (df_sub hx hg) k0 (by omega) e1 e2⟩
  by_cases e : df x g = x
  · rw [e, e2] at e1
    exact absurd e1 (by decide)
  · omega
theorem xor_df {x g : Int} (hx : ms 7 x) (hg : ms 7 g) (hs : subB g x) : zxor x g = df x g := by
  obtain ⟨d1, d2⟩ := df_b hx hg
  obtain ⟨c1, c2⟩ := zxor_b (ms_up hx (show 7 ≤ 31 by decide)) (ms_up hg (show 7 ≤ 31 by decide))
  refine ms_ext c1 (ms_up d1 (by decide)) (fun k k0 _ => ?_)
  rw [c2 k, d2 k]
  cases q : bt g k with
  | false => simp
  | true =>
    rw [hs k k0 q]
    rfl
theorem subB.tr {x y z : Int} (h1 : subB x y) (h2 : subB y z) : subB x z := fun k k0 h => h2 k k0 (h1 k k0 h)
theorem sub_ms7 {n : Nat} (hn : n ≤ 7) {x y : Int} (hx : ms 7 x) (hy : ms n y) (h : subB x y) : ms n x := by
  refine ms_of_bits (ms_up hx (by decide)) (fun k hk => ?_)
  cases q : x.toNat.testBit k with
  | false => rfl
  | true =>
    have := h (k : Int) (by omega) (by simpa [bt] using q)
    rw [bt_big hy (by omega)] at this
    exact absurd this (by decide)
def tvB (A : LA) (S : HA) (br x g : Int) : Bool := decide (zand g (zxor x (-1)) = 0 ∧ laS A S g (A 0 0).toNat ≤ br)
def tgG (A : LA) (S : HA) (br : Int) (F : Int → Int) (x : Int) : Nat → Int
  | 0 => -1
  | k + 1 => if tvB A S br x (k + 1) = true ∧ F (df x (k + 1)) ≠ -1 ∧ (tgG A S br F x k = -1 ∨ F (df x (k + 1)) + 1 < tgG A S br F x k) then F (df x (k + 1)) + 1 else tgG A S br F x k
def tgT (A : LA) (S : HA) (br : Int) : Nat → Int → Int
  | 0 => fun _ => 0
  | m + 1 => fun y => if y = (m : Int) + 1 then tgG A S br (tgT A S br m) (m + 1) (m + 1) else tgT A S br m y
def tgF (A : LA) (S : HA) (br x : Int) : Int := tgT A S br x.toNat x
theorem tgT_F (A : LA) (S : HA) (br : Int) : ∀ (m : Nat) (y : Int), 0 ≤ y → y ≤ m → tgT A S br m y = tgF A S br y
  | 0, y, h0, h1 => by
    have : y = 0 := by omega
    subst this
    rw [tgF, show (0 : Int).toNat = 0 from rfl]
  | m + 1, y, h0, h1 => by
    by_cases e : y = (m : Int) + 1
    · unfold tgF
      rw [show y.toNat = m + 1 by omega]
    · have l : tgT A S br (m + 1) y = if y = (m : Int) + 1 then tgG A S br (tgT A S br m) (m + 1) (m + 1) else tgT A S br m y := by rw [tgT]
      rw [l, if_neg e]
      exact tgT_F A S br m y h0 (by omega)
theorem tgG_cg {A : LA} {S : HA} {br : Int} {F F' : Int → Int} {x : Int} : ∀ {k : Nat}, (∀ g : Int, 1 ≤ g → g ≤ k → tvB A S br x g = true → F (df x g) = F' (df x g)) → tgG A S br F x k = tgG A S br F' x k
  | 0, _ => rfl
  | k + 1, h => by
    have ih := tgG_cg (F := F) (F' := F') (k := k) (fun g g0 g1 => h g g0 (by omega))
    rw [tgG, tgG, ih]
    by_cases e : tvB A S br x (k + 1) = true
    · rw [h (k + 1) (by omega) (by omega) e]
    · rw [if_neg (fun z => e z.1), if_neg (fun z => e z.1)]
theorem tgF_0 (A : LA) (S : HA) (br : Int) : tgF A S br 0 = 0 := by
  unfold tgF
  rw [show (0 : Int).toNat = 0 from rfl, tgT]
theorem tv_sub {A : LA} {S : HA} {br x g : Int} (hx : ms 7 x) (g0 : 1 ≤ g) (g1 : g ≤ x) (h : tvB A S br x g = true) : ms 7 g ∧ subB g x := by
  have hg : ms 7 g := ⟨by omega, by have := hx.2; omega⟩
  exact ⟨hg, (ms7_sub hg hx).mp (of_decide_eq_true h).1⟩
theorem tgF_eq {A : LA} {S : HA} {br x : Int} (hx : ms 7 x) (h : 1 ≤ x) : tgF A S br x = tgG A S br (tgF A S br) x x.toNat := by
  obtain ⟨m, hm⟩ : ∃ m : Nat, x = (m : Int) + 1 := ⟨(x - 1).toNat, by omega⟩
  subst hm
  have e : ((m : Int) + 1).toNat = m + 1 := by omega
  have l : tgF A S br ((m : Int) + 1) = tgG A S br (tgT A S br m) ((m : Int) + 1) (m + 1) := by
    unfold tgF
    have l : tgT A S br (m + 1) ((m : Int) + 1) = if (m : Int) + 1 = (m : Int) + 1 then tgG A S br (tgT A S br m) (m + 1) (m + 1) else tgT A S br m ((m : Int) + 1) := by rw [tgT]
    rw [e, l, if_pos rfl]
  rw [l, e]
  refine tgG_cg (fun g g0 g1 hv => ?_)
  obtain ⟨hg, hs⟩ := tv_sub hx g0 (by omega) hv
  have := df_lt hx hg (by omega) hs
  exact tgT_F A S br m _ this.1 (by omega)
theorem tgG_R {A : LA} {S : HA} {br x c : Int} {F : Int → Int} : ∀ {k : Nat}, (∀ g : Int, 1 ≤ g → g ≤ k → tvB A S br x g = true → -1 ≤ F (df x g) ∧ F (df x g) + 1 ≤ c) → (tgG A S br F x k = -1 ∨ (1 ≤ tgG A S br F x k ∧ tgG A S br F x k ≤ c ∧ ∃ g : Int, 1 ≤ g ∧ g ≤ k ∧ tvB A S br x g = true ∧ F (df x g) = tgG A S br F x k - 1))
  | 0, _ => Or.inl rfl
  | k + 1, h => by
    rw [tgG]
    split
    · rename_i z
      have := h (k + 1) (by omega) (by omega) z.1
      exact Or.inr ⟨by omega, by omega, (k : Int) + 1, by omega, by omega, z.1, by omega⟩
    · rcases tgG_R (F := F) (c := c) (k := k) (fun g g0 g1 => h g g0 (by omega)) with h | ⟨h1, h2, g, h3, h4, h5, h6⟩
      · exact Or.inl h
      · exact Or.inr ⟨h1, h2, g, h3, by omega, h5, h6⟩
theorem tgF_R (A : LA) (S : HA) (br : Int) : ∀ (m : Nat) (x : Int), x.toNat ≤ m → ms 7 x → -1 ≤ tgF A S br x ∧ tgF A S br x ≤ pcn x 7
  | 0, x, hm, hx => by
    have : x = 0 := by have := hx.1; omega
    subst this
    rw [tgF_0]
    exact ⟨by decide, (pcn_le 0 7).1⟩
  | m + 1, x, hm, hx => by
    by_cases e : x = 0
    · subst e
      rw [tgF_0]
      exact ⟨by decide, (pcn_le 0 7).1⟩
    · have x0 := hx.1
      rw [tgF_eq hx (by omega)]
      have q := tgG_R (A := A) (S := S) (br := br) (x := x) (c := pcn x 7) (F := tgF A S br) (k := x.toNat) (fun g g0 g1 hv => by
        obtain ⟨hg, hs⟩ := tv_sub hx g0 (by omega) hv
        have := df_lt hx hg (by omega) hs
        have := tgF_R A S br m (df x g) (by omega) (df_b hx hg).1
        omega)
      have := pcn_le x 7
      rcases q with q | q <;> omega
theorem tgF_7 {A : LA} {S : HA} {br x : Int} (hx : ms 7 x) : -1 ≤ tgF A S br x ∧ tgF A S br x ≤ 7 := by
  have h1 := tgF_R A S br x.toNat x (Nat.le_refl _) hx
  have h2 := pcn_le x 7
  omega
theorem tgF_ex {A : LA} {S : HA} {br x : Int} (hx : ms 7 x) (h : 1 ≤ x) (h1 : tgF A S br x ≠ -1) : 1 ≤ tgF A S br x ∧ ∃ g : Int, 1 ≤ g ∧ g ≤ x ∧ tvB A S br x g = true ∧ tgF A S br (df x g) = tgF A S br x - 1 := by
  have e := tgF_eq (A := A) (S := S) (br := br) hx h
  have := tgG_R (A := A) (S := S) (br := br) (x := x) (c := 7) (F := tgF A S br) (k := x.toNat) (fun g g0 g1 hv => by
    obtain ⟨hg, hs⟩ := tv_sub hx g0 (by omega) hv
    have := df_lt hx hg (by omega) hs
    have q := tgF_R A S br (df x g).toNat (df x g) (Nat.le_refl _) (df_b hx hg).1
    have := pcn_le x 7
    omega)
  rcases this with q | ⟨q1, q2, g, q3, q4, q5, q6⟩
  · rw [← e] at q
    exact absurd q h1
  · rw [← e] at q1 q6
    exact ⟨q1, g, q3, by omega, q5, q6⟩
/-! the class -/
theorem sp_fewestOf {A : LA} {S : HA} {T : TH} {br x : Int} (hA : LAok A) (hb : zR br) (hx : ms 7 x) (h1 : 1 ≤ x) (hl : ∀ g, 1 ≤ g → g ≤ x → subB g x → T 9 1 g = laS A S g (A 0 0).toNat) (hbr : T 9 2 0 = br) (hF : ∀ y, 0 ≤ y → y < x → subB y x → T 9 0 y = tgF A S br y) {Q : Int → TH → Prop} (hq : Q (tgF A S br x) T) : wp_X1_fewestOf x T Q := by
  have n0 := hA.1
  have x7 : x < 128 := hx.2
  unfold wp_X1_fewestOf
  have key : ∀ (d i : Nat), (i : Int) + d = x → h_X1_fewestOf_4 x Q (d + 1) (tgG A S br (tgF A S br) x i) (i + 1) T := by
    intro d
    induction d with
    | zero =>
      intro i hi
      have e : x.toNat = i := by omega
      rw [tgF_eq hx h1, e] at hq
      rw [h_X1_fewestOf_4]
      exact ⟨by unfold zR; omega, by unfold zR; omega, fun _ => hq, fun z => absurd (by omega) z⟩
    | succ d ih =>
      intro i hi
      have ihn := ih (i + 1) (by omega)
      rw [tgG] at ihn
      have hg : ms 7 ((i : Int) + 1) := ⟨by omega, by show (i : Int) + 1 < 128; omega⟩
      have la := laS_R hA S ((i : Int) + 1) (n := (A 0 0).toNat) (by omega)
      have gr := tgG_R (A := A) (S := S) (br := br) (x := x) (c := 7) (F := tgF A S br) (k := i) (fun g g0 g1 hv => by
        obtain ⟨hg, hs⟩ := tv_sub hx g0 (by omega) hv
        have := df_lt hx hg (by omega) hs
        have q := tgF_R A S br (df x g).toNat (df x g) (Nat.le_refl _) (df_b hx hg).1
        have := pcn_le x 7
        omega)
      have gR : -1 ≤ tgG A S br (tgF A S br) x i ∧ tgG A S br (tgF A S br) x i ≤ 7 := by
        rcases gr with q | q <;> omega
      have no : ¬ (tvB A S br x (i + 1) = true ∧ tgF A S br (df x (i + 1)) ≠ -1 ∧ (tgG A S br (tgF A S br) x i = -1 ∨ tgF A S br (df x (i + 1)) + 1 < tgG A S br (tgF A S br) x i)) → b_X1_fewestOf_64 x Q (h_X1_fewestOf_4 x Q (d + 1)) (tgG A S br (tgF A S br) x i) (i + 1) T := fun z => by
        rw [if_neg z] at ihn
        exact ihn
      have yes : (tvB A S br x (i + 1) = true ∧ tgF A S br (df x (i + 1)) ≠ -1 ∧ (tgG A S br (tgF A S br) x i = -1 ∨ tgF A S br (df x (i + 1)) + 1 < tgG A S br (tgF A S br) x i)) → b_X1_fewestOf_59 x Q (h_X1_fewestOf_4 x Q (d + 1)) (i + 1) (tgF A S br (df x (i + 1))) T := fun z => by
        show ∀ w1 : Int, w1 = _ → _
        rintro _ rfl
        rw [if_pos z] at ihn
        exact ihn
      rw [h_X1_fewestOf_4]
      refine ⟨by unfold zR; omega, by unfold zR; omega, fun z => absurd z (by omega), fun _ => ⟨zR_to _, fun z => no (fun w => z (of_decide_eq_true w.1).1), fun z => ?_⟩⟩
      have hs := (ms7_sub hg hx).mp z
      rw [hl _ (by omega) (by omega) hs, hbr]
      refine ⟨by omega, by omega, by unfold zR; omega, hb, fun z2 => no (fun w => ?_), fun z2 => ?_⟩
      · have := (of_decide_eq_true w.1).2
        omega
      · have tv : tvB A S br x (i + 1) = true := decide_eq_true ⟨z, by omega⟩
        have dl := df_lt hx hg (by omega) hs
        have d7 := tgF_7 (A := A) (S := S) (br := br) (df_b hx hg).1
        rw [xor_df hx hg hs]
        refine ⟨dl.1, by omega, ?_⟩
        rintro _ rfl
        rw [hF _ dl.1 dl.2.1 (df_sub hx hg)]
        refine ⟨by unfold zR; omega, fun z3 => no (fun w => w.2.1 z3), fun z3 => ⟨by unfold zR; omega, fun z4 => yes ⟨tv, z3, Or.inl z4⟩, fun z4 => ⟨by unfold zR; omega, by unfold zR; omega, fun z5 => no (fun w => ?_), fun z5 => yes ⟨tv, z3, Or.inr (by omega)⟩⟩⟩⟩
        rcases w.2.2 with w | w <;> omega
  exact ⟨x.toNat + 1, key x.toNat 0 (by omega)⟩
