/-! the reference's land; the call -/
theorem sp9_cp1 {T : TH} {N : Int} (hN : 4 * T 13 18 0 = N) (N0 : 0 ≤ N) (N1 : N ≤ 32) {Q : Int → TH → Prop} (hq : ∀ T', (∀ x, 0 ≤ x → x < N → T' 13 19 x = T 13 10 x) → (∀ (o j : Nat) (i : Int), ¬ (o = 13 ∧ j = 19) → T' o j i = T o j i) → ∃ m9 : Nat, h_X9_land_107 Q m9 0 T') : ∃ m9 : Nat, h_X9_land_77 Q m9 0 T := by
  have key : ∀ (d i : Nat) (T1 : TH), i + d = N.toNat → (∀ x : Int, 0 ≤ x → x < i → T1 13 19 x = T 13 10 x) → (∀ (o j : Nat) (x : Int), ¬ (o = 13 ∧ j = 19) → T1 o j x = T o j x) → h_X9_land_77 Q (d + 1) i T1 := by
    intro d
    induction d with
    | zero =>
      intro i T1 hi k1 fr
      rw [h_X9_land_77, fr 13 18 0 (by omega), hN]
      exact ⟨by unfold zR; omega, by unfold zR; omega, fun _ => hq T1 (fun x x0 x1 => k1 x x0 (by omega)) fr, fun h => absurd (by omega) h⟩
    | succ d ih =>
      intro i T1 hi k1 fr
      rw [h_X9_land_77, fr 13 18 0 (by omega), hN]
      refine ⟨by unfold zR; omega, by unfold zR; omega, fun h => absurd h (by omega), fun _ => ⟨by omega, by omega, by omega, by omega, ?_⟩⟩
      rintro _ rfl
      refine ih (i + 1) _ (by omega) (fun x x0 x1 => ?_) (fun o j x hn => ?_)
      · by_cases e : x = i
        · rw [e, up_eq, fr _ _ _ (by omega)]
        · rw [up_ne (by omega)]
          exact k1 x x0 (by omega)
      · rw [up_ne (by omega)]
        exact fr o j x hn
  exact ⟨N.toNat + 1, key N.toNat 0 T (by omega) (fun x x0 x1 => by omega) (fun _ _ _ _ => rfl)⟩
theorem sp9_cp2 {T : TH} {N : Int} (hN : 2 * T 13 20 0 = N) (N0 : 0 ≤ N) (N1 : N ≤ 24) {Q : Int → TH → Prop} (hq : ∀ T', (∀ x, 0 ≤ x → x < N → T' 13 21 x = T 13 12 x) → (∀ (o j : Nat) (i : Int), ¬ (o = 13 ∧ j = 21) → T' o j i = T o j i) → ∃ m9 : Nat, h_X9_land_137 Q m9 0 T') : ∃ m9 : Nat, h_X9_land_107 Q m9 0 T := by
  have key : ∀ (d i : Nat) (T1 : TH), i + d = N.toNat → (∀ x : Int, 0 ≤ x → x < i → T1 13 21 x = T 13 12 x) → (∀ (o j : Nat) (x : Int), ¬ (o = 13 ∧ j = 21) → T1 o j x = T o j x) → h_X9_land_107 Q (d + 1) i T1 := by
    intro d
    induction d with
    | zero =>
      intro i T1 hi k1 fr
      rw [h_X9_land_107, fr 13 20 0 (by omega), hN]
      exact ⟨by unfold zR; omega, by unfold zR; omega, fun _ => hq T1 (fun x x0 x1 => k1 x x0 (by omega)) fr, fun h => absurd (by omega) h⟩
    | succ d ih =>
      intro i T1 hi k1 fr
      rw [h_X9_land_107, fr 13 20 0 (by omega), hN]
      refine ⟨by unfold zR; omega, by unfold zR; omega, fun h => absurd h (by omega), fun _ => ⟨by omega, by omega, by omega, by omega, ?_⟩⟩
      rintro _ rfl
      refine ih (i + 1) _ (by omega) (fun x x0 x1 => ?_) (fun o j x hn => ?_)
      · by_cases e : x = i
        · rw [e, up_eq, fr _ _ _ (by omega)]
        · rw [up_ne (by omega)]
          exact k1 x x0 (by omega)
      · rw [up_ne (by omega)]
        exact fr o j x hn
  exact ⟨N.toNat + 1, key N.toNat 0 T (by omega) (fun x x0 x1 => by omega) (fun _ _ _ _ => rfl)⟩
theorem sp9_cp3 {T : TH} {N : Int} (hN : T 13 23 0 = N) (N0 : 0 ≤ N) (N1 : N ≤ 4) {Q : Int → TH → Prop} (hq : ∀ T', (∀ x, 0 ≤ x → x < N → T' 13 24 x = T 13 15 x) → (∀ (o j : Nat) (i : Int), ¬ (o = 13 ∧ j = 24) → T' o j i = T o j i) → wp_X9_begin T' (fun T1 => ∃ m9 : Nat, h_X9_land_169 Q m9 0 T1)) : ∃ m9 : Nat, h_X9_land_137 Q m9 0 T := by
  have key : ∀ (d i : Nat) (T1 : TH), i + d = N.toNat → (∀ x : Int, 0 ≤ x → x < i → T1 13 24 x = T 13 15 x) → (∀ (o j : Nat) (x : Int), ¬ (o = 13 ∧ j = 24) → T1 o j x = T o j x) → h_X9_land_137 Q (d + 1) i T1 := by
    intro d
    induction d with
    | zero =>
      intro i T1 hi k1 fr
      rw [h_X9_land_137, fr 13 23 0 (by omega), hN]
      exact ⟨by unfold zR; omega, by unfold zR; omega, fun _ => hq T1 (fun x x0 x1 => k1 x x0 (by omega)) fr, fun h => absurd (by omega) h⟩
    | succ d ih =>
      intro i T1 hi k1 fr
      rw [h_X9_land_137, fr 13 23 0 (by omega), hN]
      refine ⟨by unfold zR; omega, by unfold zR; omega, fun h => absurd h (by omega), fun _ => ⟨by omega, by omega, by omega, by omega, ?_⟩⟩
      rintro _ rfl
      refine ih (i + 1) _ (by omega) (fun x x0 x1 => ?_) (fun o j x hn => ?_)
      · by_cases e : x = i
        · rw [e, up_eq, fr _ _ _ (by omega)]
        · rw [up_ne (by omega)]
          exact k1 x x0 (by omega)
      · rw [up_ne (by omega)]
        exact fr o j x hn
  exact ⟨N.toNat + 1, key N.toNat 0 T (by omega) (fun x x0 x1 => by omega) (fun _ _ _ _ => rfl)⟩
theorem sp9_land {T : TH} {X : Int → Int} {n k pl s : Int} {A' : LA} (hT : TxM T X n) (hs : T 13 26 57 = s) (hR : RdP X n 250 ld0 (skS X n 0) k pl A') {Q : Int → TH → Prop} (hA : k = 0 → LAk A') (g0 : k = 0 → ∀ T', (∀ (o j : Nat) (i : Int), ¬ (o = 13 ∧ (j = 0 ∨ (2 ≤ j ∧ j ≤ 26) ∨ j = 30 ∨ j = 31)) → T' o j i = T o j i) → T' 13 0 0 = 0 → T' 13 6 0 = -1 → LandM T' A' → HeadM T' 26 0 (nwS A' s) → T' 13 30 0 = 0 → T' 13 30 1 = 0 → T' 13 31 0 = 0 → Q (A' 0 0) T') (g1 : k ≠ 0 → ∀ T', (∀ (o j : Nat) (i : Int), ¬ (o = 13 ∧ (j = 0 ∨ (2 ≤ j ∧ j ≤ 16))) → T' o j i = T o j i) → T' 13 0 0 = 0 → T' 13 6 0 = pl → 0 ≤ pl → pl ≤ n → Q (-10 - k) T') : wp_X9_land T Q := by
  unfold wp_X9_land
  intro T1 h1
  have F1 : F9 T T1 := fun o j i h => by rw [h1, up_ne (by omega)]
  refine sp9_isRead (hT.fr F1) (by rw [h1, up_eq]) hR (fun k0 T2 F2 a6 R2 => ?_) (fun kz T2 F2 a7 a6 pl0 pl1 => ?_)
  · intro T4 h4
    refine ⟨fun _ => ?_, fun z => absurd z (by decide)⟩
    have K := hA k0
    obtain ⟨n0, n1, n2, n3, n4, n5, -⟩ := K.1
    intro T5 h5 T6 h6 T7 h7 T8 h8 T9 h9 T10 h10
    have F : ∀ (o j : Nat) (i : Int), ¬ (o = 13 ∧ (j = 0 ∨ (17 ≤ j ∧ j ≤ 25))) → T10 o j i = T2 o j i := fun o j i h => by
      rw [h10, up_ne (by omega), h9, up_ne (by omega), h8, up_ne (by omega), h7, up_ne (by omega), h6, up_ne (by omega), h5, up_ne (by omega), h4, up_ne (by omega)]
    obtain ⟨r0, r1, r2, r3, r4, r5, r6, r7, r8⟩ := R2
    have c0 : T10 13 0 0 = 0 := by rw [h10, up_ne (by omega), h9, up_ne (by omega), h8, up_ne (by omega), h7, up_ne (by omega), h6, up_ne (by omega), h5, up_ne (by omega), h4, up_eq]
    have c17 : T10 13 17 0 = A' 0 0 := by rw [h10, up_ne (by omega), h9, up_ne (by omega), h8, up_ne (by omega), h7, up_ne (by omega), h6, up_ne (by omega), h5, up_eq, h4, up_ne (by omega), r0]
    have c18 : T10 13 18 0 = A' 1 0 := by rw [h10, up_ne (by omega), h9, up_ne (by omega), h8, up_ne (by omega), h7, up_ne (by omega), h6, up_eq, h5, up_ne (by omega), h4, up_ne (by omega), r1]
    have c20 : T10 13 20 0 = A' 2 0 := by rw [h10, up_ne (by omega), h9, up_ne (by omega), h8, up_ne (by omega), h7, up_eq, h6, up_ne (by omega), h5, up_ne (by omega), h4, up_ne (by omega), r2]
    have c22 : T10 13 22 0 = A' 5 0 := by rw [h10, up_ne (by omega), h9, up_ne (by omega), h8, up_eq, h7, up_ne (by omega), h6, up_ne (by omega), h5, up_ne (by omega), h4, up_ne (by omega), r5]
    have c23 : T10 13 23 0 = A' 3 0 := by rw [h10, up_ne (by omega), h9, up_eq, h8, up_ne (by omega), h7, up_ne (by omega), h6, up_ne (by omega), h5, up_ne (by omega), h4, up_ne (by omega), r3]
    have c25 : T10 13 25 0 = A' 4 0 := by rw [h10, up_eq, h9, up_ne (by omega), h8, up_ne (by omega), h7, up_ne (by omega), h6, up_ne (by omega), h5, up_ne (by omega), h4, up_ne (by omega), r4]
    refine sp9_cp1 (N := 4 * A' 1 0) (by rw [c18]) (by omega) (by omega) (fun T11 d1 f11 => ?_)
    refine sp9_cp2 (N := 2 * A' 2 0) (by rw [f11 _ _ _ (by omega), c20]) (by omega) (by omega) (fun T12 d2 f12 => ?_)
    refine sp9_cp3 (N := A' 3 0) (by rw [f12 _ _ _ (by omega), f11 _ _ _ (by omega), c23]) (by omega) (by omega) (fun T13 d3 f13 => ?_)
    refine sp9_begin (fun T14 m1 m2 m3 m4 m5 f14 => ?_)
    have G : ∀ (j : Nat) (i : Int), ¬ (j = 19 ∨ j = 21 ∨ j = 24 ∨ j = 26 ∨ j = 30 ∨ j = 31) → T14 13 j i = T10 13 j i := fun j i h => by
      rw [f14 _ _ _ (by omega) (by omega), f13 _ _ _ (by omega), f12 _ _ _ (by omega), f11 _ _ _ (by omega)]
    have G19 : ∀ x, 0 ≤ x → x < 4 * A' 1 0 → T14 13 19 x = T2 13 10 x := fun x x0 x1 => by
      rw [f14 _ _ _ (by omega) (by omega), f13 _ _ _ (by omega), f12 _ _ _ (by omega), d1 x x0 x1, F _ _ _ (by omega)]
    have G21 : ∀ x, 0 ≤ x → x < 2 * A' 2 0 → T14 13 21 x = T2 13 12 x := fun x x0 x1 => by
      rw [f14 _ _ _ (by omega) (by omega), f13 _ _ _ (by omega), d2 x x0 x1, f11 _ _ _ (by omega), F _ _ _ (by omega)]
    have G24 : ∀ x, 0 ≤ x → x < A' 3 0 → T14 13 24 x = T2 13 15 x := fun x x0 x1 => by
      rw [f14 _ _ _ (by omega) (by omega), d3 x x0 x1, f12 _ _ _ (by omega), f11 _ _ _ (by omega), F _ _ _ (by omega)]
    refine sp9_heads (s := s) K (by rw [G _ _ (by omega), c17]) (by rw [G _ _ (by omega), c18]) (fun f f0 f1 => by rw [G19 _ (by omega) (by omega), (r6 f f0 f1).2.2.2]) m1 (fun T15 e1 f15 => ?_)
    have G' : ∀ (j : Nat) (i : Int), j ≠ 26 → T15 13 j i = T14 13 j i := fun j i h => f15 _ _ _ (by omega)
    refine g0 k0 T15 (fun o j i h => ?_) ?_ ?_ ⟨?_, ?_, ?_, ?_, ?_, ?_, fun f f0 f1 => ?_, fun f f0 f1 => ?_, fun f f0 f1 => ?_⟩ ⟨fun p f p0 p1 f0 f1 => ?_, ?_, ?_⟩ ?_ ?_ ?_
    · rw [f15 _ _ _ (by omega), f14 _ _ _ (by omega) (by omega), f13 _ _ _ (by omega), f12 _ _ _ (by omega), f11 _ _ _ (by omega), F _ _ _ (by omega), F2 _ _ _ (by omega), F1 _ _ _ (by omega)]
    · rw [G' _ _ (by decide), G _ _ (by omega), c0]
    · rw [G' _ _ (by decide), G _ _ (by omega), F _ _ _ (by omega), a6]
    · rw [G' _ _ (by decide), G _ _ (by omega), c17]
    · rw [G' _ _ (by decide), G _ _ (by omega), c18]
    · rw [G' _ _ (by decide), G _ _ (by omega), c20]
    · rw [G' _ _ (by decide), G _ _ (by omega), c23]
    · rw [G' _ _ (by decide), G _ _ (by omega), c25]
    · rw [G' _ _ (by decide), G _ _ (by omega), c22]
    · obtain ⟨x1, x2, x3, -⟩ := r6 f f0 f1
      rw [G' _ _ (by decide), G' _ _ (by decide), G' _ _ (by decide), G19 _ (by omega) (by omega), G19 _ (by omega) (by omega), G19 _ (by omega) (by omega)]
      exact ⟨x1, x2, x3⟩
    · rw [G' _ _ (by decide), G' _ _ (by decide), G21 _ (by omega) (by omega), G21 _ (by omega) (by omega)]
      exact r7 f f0 f1
    · rw [G' _ _ (by decide), G24 _ (by omega) (by omega)]
      exact r8 f f0 f1
    · rw [Int.zero_add]
      exact e1 p f p0 p1 f0 f1
    · rw [show (0 : Int) + 56 = 56 from rfl, f15 _ _ _ (by omega), m2, nwS_1]
    · rw [show (0 : Int) + 57 = 57 from rfl, f15 _ _ _ (by omega), f14 _ _ _ (by omega) (by omega), f13 _ _ _ (by omega), f12 _ _ _ (by omega), f11 _ _ _ (by omega), F _ _ _ (by omega), F2 _ _ _ (by omega), F1 _ _ _ (by omega), hs, nwS_2]
    · rw [G' _ _ (by decide), m3]
    · rw [G' _ _ (by decide), m4]
    · rw [G' _ _ (by decide), m5]
  · intro T4 h4
    refine ⟨fun z => absurd z (by decide), fun _ => ?_⟩
    have e7 : T4 13 7 0 = k := by rw [h4, up_ne (by omega), a7]
    rw [e7]
    refine g1 kz T4 (fun o j i h => ?_) ?_ ?_ pl0 pl1
    · rw [h4, up_ne (by omega), F2 _ _ _ (by omega), F1 _ _ _ (by omega)]
    · rw [h4, up_eq]
    · rw [h4, up_ne (by omega), a6]
/-- only the text and the fault have changed -/
theorem InvA.textf {T T' : TH} {A : LA} {S : HA} (H : InvA T A S) (f : ∀ o j i, ¬ scr (T 0 1 0).toNat o j → ¬ (o = 1 ∧ (j = 0 ∨ j = 1 ∨ j = 2)) → ¬ (o = 13 ∧ (j = 0 ∨ j = 1 ∨ j = 6)) → T' o j i = T o j i) (hR : TextR T') (hF : FaultR T') : InvA T' A S := by
  obtain ⟨a1, a2, a3, a4, a5, a6, a7, a8, a9, a10, a11, a12⟩ := H
  have h23 := lOK_23 a1
  have e01 : T' 0 1 0 = T 0 1 0 := f 0 1 0 (by unfold scr; omega) (by omega) (by omega)
  have e02 : T' 0 2 0 = T 0 2 0 := f 0 2 0 (by unfold scr; omega) (by omega) (by omega)
  refine ⟨by unfold lOK; rw [e01, e02]; exact a1, by rw [e01, e02]; exact a2, a3, a4, a5.off (fun j i hj => f _ _ _ (by unfold scr; omega) (by omega) (by omega)), ?_, a7.eq (fun i _ _ => f _ _ _ (by unfold scr; omega) (by omega) (by omega)), a8.eq (f _ _ _ (by unfold scr; omega) (by omega) (by omega)) (f _ _ _ (by unfold scr; omega) (by omega) (by omega)) (fun i _ _ => f _ _ _ (by unfold scr; omega) (by omega) (by omega)) (fun i _ _ => f _ _ _ (by unfold scr; omega) (by omega) (by omega)), hR, hF, a11.eq (f _ _ _ (by unfold scr; omega) (by omega) (by omega)) (f _ _ _ (by unfold scr; omega) (by omega) (by omega)) (fun i => f _ _ _ (by unfold scr; omega) (by omega) (by omega)) (fun i => f _ _ _ (by unfold scr; omega) (by omega) (by omega)) (fun i => f _ _ _ (by unfold scr; omega) (by omega) (by omega)), a12.eq (f _ _ _ (by unfold scr; omega) (by omega) (by omega)) (fun i => f _ _ _ (by unfold scr; omega) (by omega) (by omega)) (fun i => f _ _ _ (by unfold scr; omega) (by omega) (by omega)) (fun o j i ho hj => f _ _ _ (by unfold scr; omega) (by omega) (by omega))⟩
  rw [e01]
  exact a6.eq (fun j i => f _ _ _ (by unfold scr; omega) (by omega) (by omega))
theorem st_land {T : TH} (H : Inv T) : wp_X8_land T (fun r1 T1 => wp_X9_land T1 (fun r2 T2 => r1 = r2 ∧ zR r1 ∧ Inv T2)) := by
  obtain ⟨A, S, h⟩ := H
  have h0 := h
  obtain ⟨a1, a2, a3, a4, a5, a6, a7, a8, a9, a10, a11, a12⟩ := h
  obtain ⟨t1, t2, t3⟩ := a9
  have l1 := a1.1
  have l2 := a1.2
  have hT : TxC T (T 13 1) (T 13 0 0) := ⟨t1, t2, t3⟩
  obtain ⟨o, hO⟩ : ∃ o : Nat, (T 0 2 0).toNat = o := ⟨_, rfl⟩
  have ho : o = 2 ∨ o = 3 := by omega
  unfold wp_X8_land
  rw [hO]
  refine sp_readInto ho hT (fun T1 A' F b2 C1 K1 hR => ?_) (fun T1 k pl F b2 k0 k1 hR => ?_)
  · intro T3 h3
    refine ⟨z0, fun _ => ?_, fun z => absurd rfl z⟩
    have x1 : T3 0 1 0 = T 0 1 0 := by rw [h3, up_ne (by omega), F _ _ _ (by omega) (by omega)]
    have x2 : T3 0 2 0 = T 0 2 0 := by rw [h3, up_ne (by omega), F _ _ _ (by omega) (by omega)]
    rw [x1, x2, hO]
    intro T4 h4 T5 h5
    have e5 : (T5 0 1 0).toNat = o := by rw [h5, up_ne (by omega), h4, up_eq, Int.toNat_natCast]
    rw [e5]
    have C5 : LdC T5 o A' := C1.eq (fun j i => by rw [h5, up_ne (by omega), h4, up_ne (by omega), h3, up_ne (by omega)])
    refine sp_begin ho K1 C5 (fun T6 c0 c2 c4 f6 => ?_)
    intro T7 h7 T8 h8
    have fr : ∀ (o' j : Nat) (i : Int), ¬ (o' = 1 ∧ 1 ≤ j ∧ j ≤ 5) → ¬ o' = o → ¬ (o' = 0 ∧ (j = 1 ∨ j = 2 ∨ j = 6)) → ¬ (o' = 4 ∧ (j = 0 ∨ j = 2 ∨ j = 4)) → ¬ (o' = 8 ∧ j = 0) → T8 o' j i = T o' j i := fun o' j i q1 q2 q3 q4 q5 => by
      rw [h8, up_ne (by omega), h7, up_ne (by omega), f6 _ _ _ (by omega), h5, up_ne (by omega), h4, up_ne (by omega), h3, up_ne (by omega), F _ _ _ (by omega) q2]
    have y1 : T8 0 1 0 = (o : Int) := by rw [h8, up_ne (by omega), h7, up_ne (by omega), f6 _ _ _ (by omega), h5, up_ne (by omega), h4, up_eq]
    have y2 : T8 0 2 0 = ((T 0 1 0).toNat : Int) := by rw [h8, up_ne (by omega), h7, up_ne (by omega), f6 _ _ _ (by omega), h5, up_eq]
    have C8 : LdC T8 o A' := C5.eq (fun j i => by rw [h8, up_ne (by omega), h7, up_ne (by omega), f6 _ _ _ (by omega)])
    have n0 := K1.1.1
    rw [y1, Int.toNat_natCast, C8.1]
    refine sp9_land (X := T 13 1) (n := T 13 0 0) (s := S 2 0 0) ⟨fr _ _ _ (by omega) (by omega) (by omega) (by omega) (by omega), t2, fun i i0 i1 => ?_⟩ ?_ (hR 0) (fun _ => K1) (fun _ T9 f9 d0 d6 L9 H9 d30 d31 dl => ?_) (fun z => absurd rfl z)
    · rw [fr _ _ _ (by omega) (by omega) (by omega) (by omega) (by omega)]
      exact ⟨rfl, (t3 i i0 i1).2⟩
    · rw [fr _ _ _ (by omega) (by omega) (by omega) (by omega) (by omega)]
      exact a7.s0
    have g : ∀ (o' j : Nat) (i : Int), o' ≠ 13 → T9 o' j i = T8 o' j i := fun o' j i hno => f9 _ _ _ (by omega)
    have z1 : T9 0 1 0 = (o : Int) := by rw [g _ _ _ (by decide), y1]
    have z2 : T9 0 2 0 = ((T 0 1 0).toNat : Int) := by rw [g _ _ _ (by decide), y2]
    refine ⟨rfl, by unfold zR; omega, A', nwS A' (S 2 0 0), ⟨?_, ?_⟩, ?_, K1.1, nwS_ok a4.2.1, L9, ?_, H9, nwS_C K1 ?_ ?_ (fun f f0 f1 => ?_) (fun i i0 i1 => ?_), ⟨?_, ?_, fun i i0 i1 => ?_⟩, ⟨?_, ?_, ?_⟩, ⟨?_, ?_, fun k k0 k1 => ?_⟩, ⟨?_, fun i i0 i1 => ⟨?_, fun hb => ?_⟩⟩⟩
    · rw [z1]
      omega
    · rw [z2]
      omega
    · rw [z1, z2]
      omega
    · rw [z1, Int.toNat_natCast]
      exact (C8.land K1.1).eq (fun j i => g _ _ _ (by omega))
    · rw [g _ _ _ (by decide), h8, up_ne (by omega), h7, up_ne (by omega), c0]
    · rw [g _ _ _ (by decide), fr _ _ _ (by omega) (by omega) (by omega) (by omega) (by omega)]
      exact a8.2.1
    · rw [g _ _ _ (by decide), h8, up_ne (by omega), h7, up_ne (by omega)]
      exact c2 f f0 f1
    · rw [g _ _ _ (by decide), h8, up_ne (by omega), h7, up_ne (by omega)]
      exact c4 i i0 i1
    · rw [d0, g _ _ _ (by decide), h8, up_ne (by omega), h7, up_ne (by omega), f6 _ _ _ (by omega), h5, up_ne (by omega), h4, up_ne (by omega), h3, up_eq]
    · rw [d0]
      decide
    · rw [d0] at i1
      omega
    · rw [d6, g _ _ _ (by decide), h8, up_ne (by omega), h7, up_ne (by omega), f6 _ _ _ (by omega), h5, up_ne (by omega), h4, up_ne (by omega), h3, up_ne (by omega), b2]
    · rw [d6]
      decide
    · rw [d6]
      decide
    · rw [dl, g _ _ _ (by decide), h8, up_ne (by omega), h7, up_eq]
    · rw [dl]
      decide
    · rw [dl] at k1
      omega
    · rw [g _ _ _ (by decide), h8, up_eq]
      exact ms_0 2
    · rw [g 0 6 0 (by decide), h8, up_eq, bt_0]
      have : i = 0 ∨ i = 1 := by omega
      rcases this with e | e
      · rw [e, d30]
        rfl
      · rw [e, d31]
        rfl
    · rw [g 0 6 0 (by decide), h8, up_eq, bt_0] at hb
      exact absurd hb (by decide)
  · intro T3 h3
    refine ⟨by unfold zR; omega, fun z => absurd z (by omega), fun _ => ?_⟩
    have fr : ∀ (o' j : Nat) (i : Int), ¬ (o' = 1 ∧ 1 ≤ j ∧ j ≤ 5) → ¬ o' = o → T3 o' j i = T o' j i := fun o' j i q1 q2 => by
      rw [h3, up_ne (by omega), F _ _ _ (by omega) q2]
    refine sp9_land (X := T 13 1) (n := T 13 0 0) (s := S 2 0 0) ⟨fr _ _ _ (by omega) (by omega), t2, fun i i0 i1 => ?_⟩ ?_ (hR ld0) (fun z => absurd z (by omega)) (fun z => absurd z (by omega)) (fun _ T9 f9 d0 d6 p0 p1 => ?_)
    · rw [fr _ _ _ (by omega) (by omega)]
      exact ⟨rfl, (t3 i i0 i1).2⟩
    · rw [fr _ _ _ (by omega) (by omega)]
      exact a7.s0
    refine ⟨rfl, by unfold zR; omega, A, S, h0.textf (fun o' j i q1 q2 q3 => ?_) ⟨?_, ?_, fun i i0 i1 => ?_⟩ ⟨?_, ?_, ?_⟩⟩
    · have oh : o ≠ (T 0 1 0).toNat := by omega
      unfold scr at q1
      rw [f9 _ _ _ (by omega), fr _ _ _ (by omega) (by omega)]
    · rw [d0, f9 _ _ _ (by omega), h3, up_eq]
    · rw [d0]
      decide
    · rw [d0] at i1
      omega
    · rw [d6, f9 _ _ _ (by omega), h3, up_ne (by omega), b2]
    · rw [d6]
      omega
    · rw [d6]
      omega
