/-! told on within an hour -/
theorem low_all : ∀ n : Nat, n < 128 → n ≠ 0 → ∃ q : Nat, q < 7 ∧ zand (n : Int) (-(n : Int)) = zshl 1 (q : Int) ∧ n.testBit q = true ∧ ∀ q' : Nat, q' < q → n.testBit q' = false := by decide +kernel
theorem low_b {s : Int} (h : ms 7 s) (hn : s ≠ 0) : ∃ q : Int, 0 ≤ q ∧ q < 7 ∧ zand s (-s) = zshl 1 q ∧ bt s q = true ∧ ∀ q', 0 ≤ q' → q' < q → bt s q' = false := by
  have h0 := h.1
  have h1 : s < 128 := h.2
  obtain ⟨q, q1, q2, q3, q4⟩ := low_all s.toNat (by omega) (by omega)
  rw [Int.toNat_of_nonneg h0] at q2
  refine ⟨q, by omega, by omega, q2, q3, fun q' a b => ?_⟩
  exact q4 q'.toNat (by omega)
theorem bt_nz {s k : Int} (h : bt s k = true) : s ≠ 0 := by
  rintro rfl
  rw [bt_0] at h
  exact absurd h (by decide)
/-- the friends without a fact, a set of bits -/
theorem open_bits {A : LA} {S : HA} {p f fr kn : Int} (hA : LAok A) (h1 : ms 7 fr) (h2 : ∀ q, 0 ≤ q → q < 7 → bt fr q = frB A p q) (h3 : ms 7 kn) (h4 : ∀ q, 0 ≤ q → q < A 0 0 → bt kn q = decide (S 0 q f ≠ -1)) (hk : S 0 p f ≠ -1) : ms 7 (zand fr (zxor kn (-1))) ∧ ∀ q, 0 ≤ q → q < 7 → (bt (zand fr (zxor kn (-1))) q = true ↔ opS A S p f q) := by
  obtain ⟨c1, c2⟩ := zandn_b (ms_up h1 (by decide)) (ms_up h3 (by decide))
  refine ⟨andn_ms h1 (ms_up h3 (by decide)) (by decide), fun q q0 q1 => ?_⟩
  rw [c2 q, h2 q q0 q1, Bool.and_eq_true]
  constructor
  · rintro ⟨x1, x2⟩
    have := frB_lt hA x1
    rw [h4 q q0 this.2] at x2
    exact ⟨hk, x1, by simpa using x2⟩
  · rintro ⟨x1, x2, x3⟩
    have := frB_lt hA x2
    rw [h4 q q0 this.2, x3]
    exact ⟨x2, rfl⟩
theorem sp_chat {A : LA} {T : TH} {S : HA} {o l : Nat} {p : Int} (hA : LAok A) (hol : l ≠ o) (hC : LandC T l A) (hH : HeadC T o S) (hm : ∀ f, 0 ≤ f → f < 8 → ms 7 (T o 3 f)) {Q : TH → Prop} (p0 : 0 ≤ p) (p1 : p < A 0 0) (hq : ∀ T', (∀ f, 0 ≤ f → f < 8 → ms 7 (T' o 3 f) ∧ ∀ q, 0 ≤ q → q < 7 → (bt (T' o 3 f) q = true ↔ (bt (T o 3 f) q = true ∨ tlS A S p f q))) → (∀ o' j i, ¬ (o' = o ∧ j = 3) → T' o' j i = T o' j i) → Q T') : wp_X2_chat o l p T Q := by
  have n0 := hA.1
  have n1 := hA.2.1
  unfold wp_X2_chat
  refine ⟨(A 1 0).toNat + 1, ?_⟩
  have key : ∀ (d i : Nat), i + d = (A 1 0).toNat → (∀ f', 0 ≤ f' → f' < (i : Int) → ∀ q', 0 ≤ q' → q' < 7 → ¬ opS A S p f' q') → h_X2_chat_2 o l p Q (d + 1) i T := by
    intro d
    induction d with
    | zero =>
      intro i hi hno
      rw [h_X2_chat_2, hC.2.1]
      refine ⟨by unfold zR; omega, by unfold zR; omega, fun _ => ?_, fun h => absurd (by omega) h⟩
      refine hq T (fun f f0 f1 => ⟨hm f f0 f1, fun q q0 q1 => ⟨fun h => Or.inl h, fun h => ?_⟩⟩) (fun _ _ _ _ => rfl)
      rcases h with h | h
      · exact h
      · exact absurd h.2.1 (hno f f0 (by have := h.1; omega) q q0 q1)
    | succ d ih =>
      intro i hi hno
      rw [h_X2_chat_2, hC.2.1]
      refine ⟨by unfold zR; omega, by unfold zR; omega, fun h => absurd h (by omega), fun _ => ?_⟩
      have fin : ∀ s : Int, ms 7 s → (∀ q, 0 ≤ q → q < 7 → (bt s q = true ↔ opS A S p i q)) → b_X2_chat_38 o l p Q (h_X2_chat_2 o l p Q (d + 1)) i s T := by
        intro s s1 s2
        refine ⟨ms_R s1 (by decide), fun e => ?_, fun e => ⟨by omega, by omega, by omega, by omega, ?_⟩⟩
        · refine ih (i + 1) (by omega) (fun f' f0 f1 q' q0 q1 => ?_)
          by_cases e2 : f' = i
          · subst e2
            intro h
            exact bt_nz ((s2 q' q0 q1).mpr h) e
          · exact hno f' f0 (by omega) q' q0 q1
        · obtain ⟨q, q0, q1, q2, q3, q4⟩ := low_b s1 e
          rintro _ rfl
          obtain ⟨t1, t2⟩ := put_b (hm i (by omega) (by omega)) q0 (by omega : q < (7 : Nat)) (by decide)
          rw [q2]
          refine hq _ (fun f f0 f1 => ?_) (fun o' j x hn => up_ne (by omega))
          by_cases e2 : f = i
          · subst e2
            rw [up_eq]
            refine ⟨t1, fun q' a b => ?_⟩
            rw [t2 q' a, Bool.or_eq_true, decide_eq_true_iff]
            refine or_congr Iff.rfl ⟨fun h => ?_, fun h => ?_⟩
            · subst h
              refine ⟨by omega, (s2 q' a b).mp q3, fun q'' c1 c2 h => ?_, hno⟩
              rw [← s2 q'' c1 (by omega), q4 q'' c1 c2] at h
              exact absurd h (by decide)
            · obtain ⟨r1, r2, r3, r4⟩ := h
              have z1 : ¬ q < q' := fun h => r3 q q0 h ((s2 q q0 q1).mp q3)
              have z2 : ¬ q' < q := fun h => by
                have := (s2 q' a b).mpr r2
                rw [q4 q' a h] at this
                exact absurd this (by decide)
              omega
          · rw [up_ne (by omega)]
            refine ⟨hm f f0 f1, fun q' a b => ⟨fun h => Or.inl h, fun h => ?_⟩⟩
            rcases h with h | h
            · exact h
            · obtain ⟨r1, r2, r3, r4⟩ := h
              by_cases e3 : f < i
              · exact absurd r2 (hno f f0 e3 q' a b)
              · exact absurd ((s2 q q0 q1).mp q3) (r4 i (by omega) (by omega) q q0 q1)
      refine sp_knows hH p0 (by omega) (by omega) (by omega) ?_
      refine dec_ft (fun hk => ?_) (fun hk => ⟨p0, by omega, by omega, by omega, ?_⟩)
      · refine fin 0 (ms_0 7) (fun q q0 q1 => ⟨fun h => ?_, fun h => absurd h.1 hk⟩)
        rw [bt_0] at h
        exact absurd h (by decide)
      · obtain ⟨f1, f2⟩ := hC.2.2.2.2.2.2.2.2.2.1 p p0 p1
        obtain ⟨k1, k2⟩ := hH.2.2.1 i (by omega) (by omega)
        obtain ⟨b1, b2⟩ := open_bits (p := p) (f := (i : Int)) hA f1 f2 k1 (fun q q0 q1 => k2 q q0 (by omega)) hk
        exact fin _ b1 b2
  exact key (A 1 0).toNat 0 (by omega) (fun f' a b => by omega)
theorem hrS_step {A : LA} {S : HA} {i f q : Int} (h0 : 0 ≤ i) : hrS A S (i + 1) f q ↔ (hrS A S i f q ∨ (bt (A 5 0) i = false ∧ tlS A S i f q)) := by
  constructor
  · rintro ⟨p, a, b, c, d⟩
    by_cases e : p = i
    · subst e
      exact Or.inr ⟨c, d⟩
    · exact Or.inl ⟨p, a, by omega, c, d⟩
  · rintro (⟨p, a, b, c, d⟩ | ⟨c, d⟩)
    · exact ⟨p, a, by omega, c, d⟩
    · exact ⟨i, h0, by omega, c, d⟩
theorem hrS_lt {A : LA} {S : HA} {n f q : Int} (hA : LAok A) (h : hrS A S n f q) : q < A 0 0 ∧ f < A 1 0 := by
  obtain ⟨p, a, b, c, d1, d2, d3⟩ := h
  exact ⟨(frB_lt hA d2.2.1).2, d1⟩
/-- what was gathered is learned -/
theorem sp_learnAll {A : LA} {T : TH} {S : HA} {o l : Nat} {E : Int → Int → Prop} (hA : LAok A) (hol : l ≠ o) (hC : LandC T l A) (hh : 0 ≤ S 1 0 0) (hH : HeadC T o S) (hE : ∀ f q, E f q → q < A 0 0 ∧ f < A 1 0) (hm : ∀ f, 0 ≤ f → f < 8 → ms 7 (T o 3 f) ∧ ∀ q, 0 ≤ q → q < 7 → (bt (T o 3 f) q = true ↔ E f q)) {Q : TH → Prop} (hq : ∀ T' S', HeadC T' o S' → S' 1 0 0 = S 1 0 0 → S' 2 0 0 = S 2 0 0 → (∀ q f, 0 ≤ q → q < 7 → 0 ≤ f → f < 8 → (E f q → S' 0 q f = S 1 0 0) ∧ (¬ E f q → S' 0 q f = S 0 q f)) → (∀ o' j i, ¬ (o' = o ∧ (j = 2 ∨ j = 4)) → T' o' j i = T o' j i) → Q T') : ∃ n, h_X2_tellOn_40 o l Q n 0 T := by
  have n0 := hA.1
  have n1 := hA.2.1
  let P : Nat → Nat → HA → Prop := fun i j Sx => Sx 1 0 0 = S 1 0 0 ∧ Sx 2 0 0 = S 2 0 0 ∧ ∀ a b : Int, 0 ≤ a → a < 7 → 0 ≤ b → b < 8 → ((b < (i : Int) ∨ (b = (i : Int) ∧ a < (j : Int))) ∧ E b a → Sx 0 a b = S 1 0 0) ∧ (¬ ((b < (i : Int) ∨ (b = (i : Int) ∧ a < (j : Int))) ∧ E b a) → Sx 0 a b = S 0 a b)
  let F : TH → Prop := fun T' => ∀ o' j i, ¬ (o' = o ∧ (j = 2 ∨ j = 4)) → T' o' j i = T o' j i
  have inner : ∀ (K : Int → TH → Prop) (i : Nat), i < (A 1 0).toNat → (∀ T' Sx, F T' → HeadC T' o Sx → P (i + 1) 0 Sx → K (i + 1) T') → ∀ (d j : Nat) (T1 : TH) (Sx : HA), j + d = (A 0 0).toNat → F T1 → HeadC T1 o Sx → P i j Sx → h_X2_tellOn_50 o l Q K (d + 1) i j T1 := by
    intro K i hi hK d
    induction d with
    | zero =>
      intro j T1 Sx hj hF hx hP
      obtain ⟨m1, m2⟩ := hm i (by omega) (by omega)
      rw [h_X2_tellOn_50, hF l 0 0 (by omega), hC.1, hF o 3 i (by omega)]
      have fin : K (i + 1) T1 := by
        refine hK T1 Sx hF hx ⟨hP.1, hP.2.1, fun a b a0 a1 b0 b1 => ⟨fun hx => ?_, fun hx => ?_⟩⟩
        · have := hE b a hx.2
          exact (hP.2.2 a b a0 a1 b0 b1).1 ⟨by omega, hx.2⟩
        · exact (hP.2.2 a b a0 a1 b0 b1).2 (fun z => hx ⟨by omega, z.2⟩)
      exact ⟨by omega, by omega, ms_R m1 (by decide), fun _ => fin, fun _ => ⟨by unfold zR; omega, by unfold zR; omega, fun _ => fin, fun h => absurd (by omega) h⟩⟩
    | succ d ih =>
      intro j T1 Sx hj hF hx hP
      obtain ⟨m1, m2⟩ := hm i (by omega) (by omega)
      rw [h_X2_tellOn_50, hF l 0 0 (by omega), hC.1, hF o 3 i (by omega)]
      refine ⟨by omega, by omega, ms_R m1 (by decide), fun e => ?_, fun _ => ⟨by unfold zR; omega, by unfold zR; omega, fun h => absurd h (by omega), fun _ => ⟨by omega, by omega, ?_⟩⟩⟩
      · refine hK T1 Sx hF hx ⟨hP.1, hP.2.1, fun a b a0 a1 b0 b1 => ⟨fun hx => ?_, fun hx => ?_⟩⟩
        · by_cases eb : b = i
          · subst eb
            exact absurd e (bt_nz ((m2 a a0 a1).mpr hx.2))
          · exact (hP.2.2 a b a0 a1 b0 b1).1 ⟨by omega, hx.2⟩
        · exact (hP.2.2 a b a0 a1 b0 b1).2 (fun z => hx ⟨by omega, z.2⟩)
      refine bit_ne (ms_up m1 (by decide)) (by omega) (by omega) (fun hb => ?_) (fun hb => ?_)
      · have hn : ¬ E i j := fun h => by
          rw [← m2 j (by omega) (by omega), hb] at h
          exact absurd h (by decide)
        refine ih (j + 1) T1 Sx (by omega) hF hx ⟨hP.1, hP.2.1, fun a b a0 a1 b0 b1 => ⟨fun hx => ?_, fun hx => ?_⟩⟩
        · refine (hP.2.2 a b a0 a1 b0 b1).1 ⟨?_, hx.2⟩
          by_cases e : a = j ∧ b = i
          · rw [e.1, e.2] at hx
            exact absurd hx.2 hn
          · omega
        · exact (hP.2.2 a b a0 a1 b0 b1).2 (fun z => hx ⟨by omega, z.2⟩)
      · have hy : E i j := (m2 j (by omega) (by omega)).mp hb
        refine sp_learn hx (by rw [hP.1]; exact hh) (by omega) (by omega) (by omega) (by omega) (fun T2 c1 c2 => ?_)
        refine ih (j + 1) T2 _ (by omega) (fun o' j' i' hn => (c2 _ _ _ hn).trans (hF _ _ _ hn)) c1 ⟨by rw [setS_1]; exact hP.1, by rw [setS_2]; exact hP.2.1, fun a b a0 a1 b0 b1 => ?_⟩
        by_cases e : a = j ∧ b = i
        · obtain ⟨rfl, rfl⟩ := e
          rw [setS_hit]
          exact ⟨fun _ => hP.1, fun z => absurd ⟨by omega, hy⟩ z⟩
        · rw [setS_miss e]
          exact ⟨fun hx => (hP.2.2 a b a0 a1 b0 b1).1 ⟨by omega, hx.2⟩, fun hx => (hP.2.2 a b a0 a1 b0 b1).2 (fun z => hx ⟨by omega, z.2⟩)⟩
  have outer : ∀ (d i : Nat) (T1 : TH) (Sx : HA), i + d = (A 1 0).toNat → F T1 → HeadC T1 o Sx → P i 0 Sx → h_X2_tellOn_40 o l Q (d + 1) i T1 := by
    intro d
    induction d with
    | zero =>
      intro i T1 Sx hi hF hx hP
      rw [h_X2_tellOn_40, hF l 1 0 (by omega), hC.2.1]
      refine ⟨by unfold zR; omega, by unfold zR; omega, fun _ => ?_, fun h => absurd (by omega) h⟩
      refine hq T1 Sx hx hP.1 hP.2.1 (fun a b a0 a1 b0 b1 => ⟨fun e => ?_, fun e => ?_⟩) hF
      · have := hE b a e
        exact (hP.2.2 a b a0 a1 b0 b1).1 ⟨by omega, e⟩
      · exact (hP.2.2 a b a0 a1 b0 b1).2 (fun z => e z.2)
    | succ d ih =>
      intro i T1 Sx hi hF hx hP
      rw [h_X2_tellOn_40, hF l 1 0 (by omega), hC.2.1]
      refine ⟨by unfold zR; omega, by unfold zR; omega, fun h => absurd h (by omega), fun _ => ⟨(A 0 0).toNat + 1, ?_⟩⟩
      exact inner _ i (by omega) (fun T' Sx' f' x' p' => ih (i + 1) T' Sx' (by omega) f' x' p') (A 0 0).toNat 0 T1 Sx (by omega) hF hx hP
  refine ⟨(A 1 0).toNat + 1, ?_⟩
  exact outer (A 1 0).toNat 0 T S (by omega) (fun _ _ _ _ => rfl) hH ⟨rfl, rfl, fun a b a0 a1 b0 b1 => ⟨fun z => absurd z.1 (by omega), fun _ => rfl⟩⟩
theorem sp_passHour {A : LA} {T : TH} {S : HA} {o l : Nat} {M : Int} (hA : LAok A) (hol : l ≠ o) (hC : LandC T l A) (hM : M ≤ 1000000) (hS : HAok A S M) (hH : HeadC T o S) {Q : TH → Prop} (hq : ∀ T' S', HeadC T' o S' → PassR A S S' → (∀ o' j i, ¬ (o' = o ∧ (j = 0 ∨ j = 2 ∨ j = 3 ∨ j = 4)) → T' o' j i = T o' j i) → Q T') : wp_X2_passHour o l T Q := by
  have n0 := hA.1
  have s1 := hS.1
  unfold wp_X2_passHour
  intro T1 hT1
  have e1 : ∀ o' j i, ¬ (o' = o ∧ j = 0) → T1 o' j i = T o' j i := fun o' j i hn => by rw [hT1, up_ne (by omega)]
  have hH1 : HeadC T1 o (setK S 1 (S 1 0 0 + 1)) := by
    obtain ⟨h1, h2, h3, h4⟩ := hH
    refine ⟨?_, ?_, fun f f0 f1 => ?_, fun p f p0 p1 f0 f1 hk => ?_⟩
    · rw [hT1, up_eq, setK_hit, h1]
    · rw [e1 _ _ _ (by omega), setK_ne (by decide)]
      exact h2
    · rw [e1 _ _ _ (by omega)]
      refine ⟨(h3 f f0 f1).1, fun p p0 p1 => ?_⟩
      rw [setK_0 (by decide)]
      exact (h3 f f0 f1).2 p p0 p1
    · rw [setK_0 (by decide)] at hk ⊢
      rw [e1 _ _ _ (by omega)]
      exact h4 p f p0 p1 f0 f1 hk
  refine sp_forgetOld hA hol (hC.off (fun j i => e1 _ _ _ (by omega))) hM hS hH1 (fun T2 c1 c2 => ?_)
  unfold wp_X2_tellOn
  refine sp_fill (by decide) (fun T3 d1 d2 => ?_)
  have l3 : LandC T3 l A := hC.off (fun j i => by rw [d2 _ _ _ (by omega), c2 _ _ _ (by omega), e1 _ _ _ (by omega)])
  have h3 : HeadC T3 o (fgS A S) := c1.eq (d2 _ _ _ (by omega)) (d2 _ _ _ (by omega)) (fun _ _ _ => d2 _ _ _ (by omega)) (fun _ _ _ => d2 _ _ _ (by omega))
  have key : ∀ (d i : Nat) (T4 : TH), i + d = (A 0 0).toNat → (∀ f, 0 ≤ f → f < 8 → ms 7 (T4 o 3 f) ∧ ∀ q, 0 ≤ q → q < 7 → (bt (T4 o 3 f) q = true ↔ hrS A (fgS A S) i f q)) → (∀ o' j i, ¬ (o' = o ∧ j = 3) → T4 o' j i = T3 o' j i) → h_X2_tellOn_10 o l Q (d + 1) i T4 := by
    intro d
    induction d with
    | zero =>
      intro i T4 hi k1 k2
      rw [h_X2_tellOn_10, k2 l 0 0 (by omega), l3.1]
      refine ⟨by unfold zR; omega, by unfold zR; omega, fun _ => ?_, fun h => absurd (by omega) h⟩
      have hi : (i : Int) = A 0 0 := by omega
      refine sp_learnAll (S := fgS A S) (E := fun f q => hrS A (fgS A S) (A 0 0) f q) hA hol (l3.off (fun j x => k2 _ _ _ (by omega))) (by rw [fgS_1]; omega) (h3.eq (k2 _ _ _ (by omega)) (k2 _ _ _ (by omega)) (fun _ _ _ => k2 _ _ _ (by omega)) (fun _ _ _ => k2 _ _ _ (by omega))) (fun f q h => hrS_lt hA h) (fun f f0 f1 => by have := k1 f f0 f1; rw [hi] at this; exact this) (fun T' S' x1 x2 x3 x4 x5 => ?_)
      refine hq T' S' x1 ⟨x2, x3, fun q f q0 q1 f0 f1 => x4 q f q0 q1 f0 f1⟩ (fun o' j x hn => ?_)
      rw [x5 _ _ _ (by omega), k2 _ _ _ (by omega), d2 _ _ _ (by omega), c2 _ _ _ (by omega), e1 _ _ _ (by omega)]
    | succ d ih =>
      intro i T4 hi k1 k2
      rw [h_X2_tellOn_10, k2 l 0 0 (by omega), l3.1]
      refine ⟨by unfold zR; omega, by unfold zR; omega, fun h => absurd h (by omega), fun _ => ?_⟩
      have l4 : LandC T4 l A := l3.off (fun j x => k2 _ _ _ (by omega))
      refine sp_isQuiet hA l4 (by omega) (by omega) ?_
      refine ⟨fun hb => ?_, fun hb => ?_⟩
      · refine ih (i + 1) T4 (by omega) (fun f f0 f1 => ⟨(k1 f f0 f1).1, fun q q0 q1 => ?_⟩) k2
        rw [(k1 f f0 f1).2 q q0 q1]
        show _ ↔ hrS A (fgS A S) ((i : Int) + 1) f q
        rw [hrS_step (by omega), hb]
        simp
      · refine sp_chat hA hol l4 (h3.eq (k2 _ _ _ (by omega)) (k2 _ _ _ (by omega)) (fun _ _ _ => k2 _ _ _ (by omega)) (fun _ _ _ => k2 _ _ _ (by omega))) (fun f f0 f1 => (k1 f f0 f1).1) (by omega) (by omega) (fun T5 x1 x2 => ?_)
        refine ih (i + 1) T5 (by omega) (fun f f0 f1 => ⟨(x1 f f0 f1).1, fun q q0 q1 => ?_⟩) (fun o' j x hn => (x2 _ _ _ hn).trans (k2 _ _ _ hn))
        rw [(x1 f f0 f1).2 q q0 q1, (k1 f f0 f1).2 q q0 q1]
        show _ ↔ hrS A (fgS A S) ((i : Int) + 1) f q
        rw [hrS_step (by omega), hb]
        simp
  refine ⟨(A 0 0).toNat + 1, ?_⟩
  refine key (A 0 0).toNat 0 T3 (by omega) (fun f f0 f1 => ?_) (fun _ _ _ _ => rfl)
  rw [d1 f f0 f1]
  refine ⟨ms_0 7, fun q q0 q1 => ⟨fun h => ?_, fun h => ?_⟩⟩
  · rw [bt_0] at h
    exact absurd h (by decide)
  · obtain ⟨p, a, b, c⟩ := h
    exact absurd b (by omega)
