/-! reading a text: the reference's tokens -/
def TxM (T : TH) (X : Int → Int) (n : Int) : Prop := T 13 0 0 = n ∧ (0 ≤ n ∧ n ≤ 250) ∧ (∀ i, 0 ≤ i → i < n → T 13 1 i = X i ∧ 0 ≤ X i ∧ X i ≤ 255)
def N9 (T T' : TH) : Prop := ∀ (o j : Nat) (i : Int), ¬ (o = 13 ∧ 2 ≤ j ∧ j ≤ 5) → T' o j i = T o j i
def F9 (T T' : TH) : Prop := ∀ (o j : Nat) (i : Int), ¬ (o = 13 ∧ 2 ≤ j ∧ j ≤ 16) → T' o j i = T o j i
theorem N9.tr {T T1 T2 : TH} (a : N9 T T1) (b : N9 T1 T2) : N9 T T2 := fun o j i h => (b o j i h).trans (a o j i h)
theorem F9.tr {T T1 T2 : TH} (a : F9 T T1) (b : F9 T1 T2) : F9 T T2 := fun o j i h => (b o j i h).trans (a o j i h)
theorem N9.f {T T' : TH} (h : N9 T T') : F9 T T' := fun o j i hn => h o j i (by omega)
theorem TxM.fr {T T' : TH} {X : Int → Int} {n : Int} (h : TxM T X n) (f : F9 T T') : TxM T' X n := by
  obtain ⟨h1, h2, h3⟩ := h
  refine ⟨(f 13 0 0 (by omega)).trans h1, h2, fun i i0 i1 => ?_⟩
  rw [f 13 1 i (by omega)]
  exact h3 i i0 i1
theorem sp9_token {T : TH} {X : Int → Int} {n q : Int} (hT : TxM T X n) (hp : T 13 2 0 = q) (q0 : 0 ≤ q) (q1 : q ≤ n) {Q : TH → Prop} (hE : skS X n q = n → ∀ T', N9 T T' → T' 13 3 0 = skS X n q → T' 13 4 0 = -2 → Q T') (hD : dgP X n (skS X n q) → ∀ T', N9 T T' → T' 13 3 0 = skS X n q → T' 13 2 0 = nuE X n q → T' 13 5 0 = nuV X n q → (T' 13 4 0 = if nuE X n q - skS X n q ≤ 3 then -1 else -3) → Q T') (hW : skS X n q < n → ¬ dgP X n (skS X n q) → ∀ T', N9 T T' → T' 13 3 0 = skS X n q → T' 13 2 0 = skS X n q + 1 → T' 13 4 0 = X (skS X n q) → Q T') : wp_X9_nextToken T Q := by
  have hn := hT.2.1
  have sR := skS_R X hn.2 q0
  have sn := sR.2.1 q1
  have nR := nu_R X hn.2 q0
  have en := nR.2.2.1 q1
  have fin : ∀ T1 : TH, T1 13 2 0 = skS X n q → (∀ (o j : Nat) (i : Int), ¬ (o = 13 ∧ j = 2) → T1 o j i = T o j i) → b_X9_nextToken_38 Q T1 := by
    intro T1 a2 fr1
    unfold b_X9_nextToken_38
    intro T2 h2 T3 h3
    have fr3 : ∀ (o j : Nat) (i : Int), ¬ (o = 13 ∧ (j = 2 ∨ j = 3 ∨ j = 5)) → T3 o j i = T o j i := fun o j i hno => by rw [h3, up_ne (by omega), h2, up_ne (by omega), fr1 _ _ _ (by omega)]
    have b2 : T3 13 2 0 = skS X n q := by rw [h3, up_ne (by omega), h2, up_ne (by omega), a2]
    have b3 : T3 13 3 0 = skS X n q := by rw [h3, up_ne (by omega), h2, up_eq, a2]
    have b5 : T3 13 5 0 = 0 := by rw [h3, up_eq]
    have b0 : T3 13 0 0 = n := by rw [fr3 _ _ _ (by omega), hT.1]
    have b1 : ∀ i, 0 ≤ i → i < n → T3 13 1 i = X i := fun i i0 i1 => by rw [fr3 _ _ _ (by omega), (hT.2.2 i i0 i1).1]
    have F3 : N9 T T3 := fun o j i hno => fr3 o j i (by omega)
    rw [b2, b0]
    refine ⟨by unfold zR; omega, by unfold zR; omega, fun z => ?_, fun z => ?_⟩
    · have x1 := b1 (skS X n q) (by omega) (by omega)
      have xR := hT.2.2 (skS X n q) (by omega) (by omega)
      rw [x1]
      refine ⟨by omega, by omega, sp9_in (by unfold zR; omega) (by unfold zR; omega) (by unfold zR; omega) ?_⟩
      refine dec_ft (fun w => ?_) (fun w => ?_)
      · rw [b2, x1]
        refine ⟨by omega, by omega, ?_⟩
        intro T5 h5 T6 h6
        refine hW (by omega) (fun y => w y.2) T6 (F3.tr (fun o j i hno => by rw [h6, up_ne (by omega), h5, up_ne (by omega)])) ?_ ?_ ?_
        · rw [h6, up_ne (by omega), h5, up_ne (by omega), b3]
        · rw [h6, up_eq, h5, up_ne (by omega), b2]
        · rw [h6, up_ne (by omega), h5, up_eq]
      · have dg : dgP X n (skS X n q) := ⟨by omega, w⟩
        have kE : nuE X n q = (dgF X n (skS X n q) 250 (skS X n q) 0).1 := by rw [nuE, if_pos dg]
        have kV : nuV X n q = (dgF X n (skS X n q) 250 (skS X n q) 0).2 := by rw [nuV, if_pos dg]
        have fin2 : ∀ T4 : TH, T4 13 2 0 = nuE X n q → T4 13 5 0 = nuV X n q → (∀ (o j : Nat) (i : Int), ¬ (o = 13 ∧ (j = 2 ∨ j = 5)) → T4 o j i = T3 o j i) → b_X9_nextToken_177 Q T4 := by
          intro T4 c2 c5 fr4
          have c3 : T4 13 3 0 = skS X n q := by rw [fr4 _ _ _ (by omega), b3]
          have out : ∀ v : Int, (v = if nuE X n q - skS X n q ≤ 3 then -1 else -3) → b_X9_nextToken_197 Q v T4 := by
            intro v hv
            unfold b_X9_nextToken_197
            rintro _ rfl
            refine hD dg _ ((F3.tr (fun o j i hno => fr4 o j i (by omega))).tr (fun o j i hno => by rw [up_ne (by omega)])) ?_ ?_ ?_ ?_
            · rw [up_ne (by omega), c3]
            · rw [up_ne (by omega), c2]
            · rw [up_ne (by omega), c5]
            · rw [up_eq, hv]
          unfold b_X9_nextToken_177
          rw [c2, c3]
          exact ⟨by unfold zR; omega, fun y => out _ (by rw [if_pos y]), fun y => out _ (by rw [if_neg y])⟩
        refine ⟨251, ?_⟩
        have key : ∀ (d : Nat) (x v : Int) (T4 : TH), T4 13 2 0 = x → T4 13 5 0 = v → 0 ≤ x → x ≤ n → n - x ≤ d → (∀ (o j : Nat) (i : Int), ¬ (o = 13 ∧ (j = 2 ∨ j = 5)) → T4 o j i = T3 o j i) → (∀ T', T' 13 2 0 = (dgF X n (skS X n q) d x v).1 → T' 13 5 0 = (dgF X n (skS X n q) d x v).2 → (∀ (o j : Nat) (i : Int), ¬ (o = 13 ∧ (j = 2 ∨ j = 5)) → T' o j i = T3 o j i) → b_X9_nextToken_177 Q T') → h_X9_nextToken_90 Q (d + 1) T4 := by
          intro d
          induction d with
          | zero =>
            intro x v T4 hx hv x0 x1 hd fr4 hb
            have c0 : T4 13 0 0 = n := by rw [fr4 _ _ _ (by omega), b0]
            rw [h_X9_nextToken_90, hx, c0]
            exact ⟨by unfold zR; omega, by unfold zR; omega, fun _ => hb T4 hx hv fr4, fun y => absurd (by omega) y⟩
          | succ d ih =>
            intro x v T4 hx hv x0 x1 hd fr4 hb
            have c0 : T4 13 0 0 = n := by rw [fr4 _ _ _ (by omega), b0]
            have c3 : T4 13 3 0 = skS X n q := by rw [fr4 _ _ _ (by omega), b3]
            have step : ∀ v' : Int, h_X9_nextToken_90 Q (d + 1) (up (up T4 13 5 0 v') 13 2 0 (x + 1)) → b_X9_nextToken_161 Q (h_X9_nextToken_90 Q (d + 1)) v' T4 := by
              intro v' h
              unfold b_X9_nextToken_161
              intro T5 h5 T6 h6
              have e5 : T5 13 2 0 = x := by rw [h5, up_ne (by omega), hx]
              rw [e5, h5] at h6
              rw [h6]
              exact h
            have fr6 : ∀ v' : Int, ∀ (o j : Nat) (i : Int), ¬ (o = 13 ∧ (j = 2 ∨ j = 5)) → up (up T4 13 5 0 v') 13 2 0 (x + 1) o j i = T3 o j i := fun v' o j i hno => by rw [up_ne (by omega), up_ne (by omega), fr4 _ _ _ hno]
            rw [dgF] at hb
            rw [h_X9_nextToken_90, hx, c0]
            refine ⟨by unfold zR; omega, by unfold zR; omega, fun y => ?_, fun y => ?_⟩
            · rw [if_neg (fun w => by have := w.1; omega)] at hb
              exact hb T4 hx hv fr4
            · have y1 : T4 13 1 x = X x := by rw [fr4 _ _ _ (by omega), b1 x x0 (by omega)]
              have yR := hT.2.2 x x0 (by omega)
              rw [y1]
              refine ⟨by omega, by omega, sp9_in (by unfold zR; omega) (by unfold zR; omega) (by unfold zR; omega) ?_⟩
              refine dec_ft (fun w => ?_) (fun w => ?_)
              · rw [if_neg (fun u => w u.2)] at hb
                exact hb T4 hx hv fr4
              · rw [if_pos ⟨by omega, w⟩] at hb
                rw [hx, c3, hv, y1]
                refine ⟨by unfold zR; omega, fun u => step _ ?_, fun u => ⟨by omega, by omega, step _ ?_⟩⟩
                · rw [if_neg (by omega)] at hb
                  exact ih (x + 1) v _ (by rw [up_eq]) (by rw [up_ne (by omega), up_eq]) (by omega) (by omega) (by omega) (fr6 _) hb
                · rw [if_pos (by omega)] at hb
                  exact ih (x + 1) _ _ (by rw [up_eq]) (by rw [up_ne (by omega), up_eq]) (by omega) (by omega) (by omega) (fr6 _) hb
        refine key 250 (skS X n q) 0 T3 b2 b5 (by omega) sn (by omega) (fun _ _ _ _ => rfl) (fun T4 c2 c5 fr4 => ?_)
        exact fin2 T4 (by rw [c2, kE]) (by rw [c5, kV]) fr4
    · rintro _ rfl
      refine hE z _ (F3.tr (fun o j i hno => by rw [up_ne (by omega)])) ?_ ?_
      · rw [up_ne (by omega), b3]
      · rw [up_eq]
  unfold wp_X9_nextToken
  refine ⟨251, ?_⟩
  have key : ∀ (d : Nat) (p : Int) (T1 : TH), T1 13 2 0 = p → 0 ≤ p → p ≤ n → n - p ≤ d → (∀ (o j : Nat) (i : Int), ¬ (o = 13 ∧ j = 2) → T1 o j i = T o j i) → (∀ T', T' 13 2 0 = skF X n d p → (∀ (o j : Nat) (i : Int), ¬ (o = 13 ∧ j = 2) → T' o j i = T o j i) → b_X9_nextToken_38 Q T') → h_X9_nextToken_0 Q (d + 1) T1 := by
    intro d
    induction d with
    | zero =>
      intro p T1 hp p0 p1 hd fr hq
      have c0 : T1 13 0 0 = n := by rw [fr _ _ _ (by omega), hT.1]
      rw [h_X9_nextToken_0, hp, c0]
      exact ⟨by unfold zR; omega, by unfold zR; omega, fun _ => hq T1 hp fr, fun h => absurd (by omega) h⟩
    | succ d ih =>
      intro p T1 hp p0 p1 hd fr hq
      have c0 : T1 13 0 0 = n := by rw [fr _ _ _ (by omega), hT.1]
      rw [skF] at hq
      rw [h_X9_nextToken_0, hp, c0]
      refine ⟨by unfold zR; omega, by unfold zR; omega, fun h => ?_, fun h => ?_⟩
      · rw [if_neg (by omega)] at hq
        exact hq T1 hp fr
      · have xR := hT.2.2 p p0 (by omega)
        have c1 : T1 13 1 p = X p := by rw [fr _ _ _ (by omega), xR.1]
        rw [c1]
        refine ⟨by omega, by omega, by unfold zR; omega, fun h2 => ?_, fun h2 => ?_⟩
        · rw [if_neg (fun z => h2 z.2)] at hq
          exact hq T1 hp fr
        · rw [if_pos ⟨by omega, h2⟩] at hq
          rintro _ rfl
          exact ih (p + 1) _ (by rw [up_eq]) (by omega) (by omega) (by omega) (fun o j i hno => by rw [up_ne (by omega)]; exact fr o j i hno) hq
  exact key 250 q T hp q0 q1 (by omega) (fun _ _ _ _ => rfl) fin
theorem sp9_fails {T : TH} {k : Int} {Q : Bool → TH → Prop} (hq : ∀ T', F9 T T' → T' 13 7 0 = k → T' 13 6 0 = T 13 3 0 → Q false T') : wp_X9_fails k T Q := by
  unfold wp_X9_fails
  intro T1 h1 T2 h2
  refine hq T2 (fun o j i hn => by rw [h2, up_ne (by omega), h1, up_ne (by omega)]) ?_ ?_
  · rw [h2, up_ne (by omega), h1, up_eq]
  · rw [h2, up_eq, h1, up_ne (by omega)]
theorem sp9_num {T : TH} {X : Int → Int} {n q lo hi : Int} (hT : TxM T X n) (hp : T 13 2 0 = q) (q0 : 0 ≤ q) (q1 : q ≤ n) (zl : zR lo) (zh : zR hi) {Q : Bool → TH → Prop} (h0 : nuK X n lo hi q = 0 → ∀ T', N9 T T' → T' 13 3 0 = skS X n q → T' 13 2 0 = nuE X n q → T' 13 5 0 = nuV X n q → Q true T') (h1 : nuK X n lo hi q ≠ 0 → ∀ T', F9 T T' → T' 13 7 0 = nuK X n lo hi q → T' 13 6 0 = skS X n q → Q false T') : wp_X9_isNumber lo hi T Q := by
  have hn := hT.2.1
  have nR := nu_R X hn.2 q0
  have sR := skS_R X hn.2 q0
  have one : ∀ T1 : TH, N9 T T1 → T1 13 3 0 = skS X n q → ¬ dgP X n (skS X n q) → wp_X9_fails 1 T1 (fun p3 T2 => Q p3 T2) := by
    intro T1 F a3 nd
    have kK : nuK X n lo hi q = 1 := by rw [nuK, if_neg nd]
    refine sp9_fails (fun T2 F2 b7 b6 => ?_)
    exact h1 (by rw [kK]; decide) T2 (F.f.tr F2) (by rw [b7, kK]) (by rw [b6, a3])
  unfold wp_X9_isNumber
  refine sp9_token hT hp q0 q1 (fun e T1 F a3 a4 => ?_) (fun dg T1 F a3 a2 a5 a4 => ?_) (fun e nd T1 F a3 a2 a4 => ?_)
  · rw [a4]
    exact ⟨by unfold zR; omega, fun z => absurd z (by decide), fun _ => ⟨by unfold zR; omega, fun z => absurd z (by decide), fun _ => one T1 F a3 (fun y => by have := y.1; omega)⟩⟩
  · have kK : nuK X n lo hi q = if 3 < nuE X n q - skS X n q ∨ nuV X n q < lo ∨ hi < nuV X n q then 2 else 0 := by rw [nuK, if_pos dg]
    have two : nuK X n lo hi q = 2 → b_X9_isNumber_47 lo hi Q T1 := by
      intro k2
      unfold b_X9_isNumber_47
      refine sp9_fails (fun T2 F2 b7 b6 => ⟨fun _ => ?_, fun z => absurd z (by decide)⟩)
      exact h1 (by rw [k2]; decide) T2 (F.f.tr F2) (by rw [b7, k2]) (by rw [b6, a3])
    by_cases e : nuE X n q - skS X n q ≤ 3
    · rw [if_pos e] at a4
      have b27 : b_X9_isNumber_27 lo hi Q T1 := by
        unfold b_X9_isNumber_27
        rw [a4, a5]
        refine ⟨by unfold zR; omega, fun z => absurd rfl z, fun _ => ?_⟩
        refine sp9_in (by unfold zR; omega) zl zh ?_
        refine dec_tf (fun w => ?_) (fun w => ?_)
        · unfold b_X9_isNumber_55
          exact h0 (by rw [kK, if_neg (by omega)]) T1 F a3 a2 a5
        · exact two (by rw [kK, if_pos (by omega)])
      rw [a4]
      exact ⟨by unfold zR; omega, fun _ => b27, fun z => absurd rfl z⟩
    · rw [if_neg e] at a4
      have b27 : b_X9_isNumber_27 lo hi Q T1 := by
        unfold b_X9_isNumber_27
        rw [a4]
        exact ⟨by unfold zR; omega, fun _ => two (by rw [kK, if_pos (by omega)]), fun z => absurd z (by decide)⟩
      rw [a4]
      exact ⟨by unfold zR; omega, fun z => absurd z (by decide), fun _ => ⟨by unfold zR; omega, fun _ => b27, fun z => absurd rfl z⟩⟩
  · have xR := hT.2.2 (skS X n q) (by omega) e
    rw [a4]
    exact ⟨by unfold zR; omega, fun z => absurd z (by omega), fun _ => ⟨by unfold zR; omega, fun z => absurd z (by omega), fun _ => one T1 F a3 nd⟩⟩
theorem sp9_endT {T : TH} {X : Int → Int} {n q : Int} (hT : TxM T X n) (hp : T 13 2 0 = q) (q0 : 0 ≤ q) (q1 : q ≤ n) {Q : Bool → TH → Prop} (h0 : (skS X n q < n ∧ X (skS X n q) = 59) → ∀ T', N9 T T' → T' 13 2 0 = skS X n q + 1 → Q true T') (h1 : ¬ (skS X n q < n ∧ X (skS X n q) = 59) → ∀ T', F9 T T' → T' 13 7 0 = 1 → T' 13 6 0 = skS X n q → Q false T') : wp_X9_isEnd T Q := by
  have hn := hT.2.1
  have sR := skS_R X hn.2 q0
  have bad : ∀ T1 : TH, N9 T T1 → T1 13 3 0 = skS X n q → ¬ (skS X n q < n ∧ X (skS X n q) = 59) → wp_X9_fails 1 T1 (fun p3 T2 => (p3 = false → (Q false T2)) ∧ (p3 = true → (b_X9_isEnd_21 Q T2))) := by
    intro T1 F a3 nd
    refine sp9_fails (fun T2 F2 b7 b6 => ⟨fun _ => ?_, fun z => absurd z (by decide)⟩)
    exact h1 nd T2 (F.f.tr F2) b7 (by rw [b6, a3])
  unfold wp_X9_isEnd
  refine sp9_token hT hp q0 q1 (fun e T1 F a3 a4 => ?_) (fun dg T1 F a3 a2 a5 a4 => ?_) (fun e nd T1 F a3 a2 a4 => ?_)
  · rw [a4]
    exact ⟨by unfold zR; omega, fun z => absurd z (by decide), fun _ => bad T1 F a3 (fun y => by have := y.1; omega)⟩
  · have r : T1 13 4 0 = -1 ∨ T1 13 4 0 = -3 := by
      rw [a4]
      split
      · exact Or.inl rfl
      · exact Or.inr rfl
    exact ⟨by unfold zR; omega, fun z => absurd z (by omega), fun _ => bad T1 F a3 (fun y => by have := dg.2; omega)⟩
  · have xR := hT.2.2 (skS X n q) (by omega) e
    rw [a4]
    refine ⟨by unfold zR; omega, fun z => ?_, fun z => bad T1 F a3 (fun y => z y.2)⟩
    unfold b_X9_isEnd_21
    exact h0 ⟨e, z⟩ T1 F a2
