/-! reading a text: pure -/
abbrev dgP (X : Int → Int) (n i : Int) : Prop := i < n ∧ 48 ≤ X i ∧ X i ≤ 57
def skF (X : Int → Int) (n : Int) : Nat → Int → Int
  | 0, p => p
  | d + 1, p => if p < n ∧ X p = 32 then skF X n d (p + 1) else p
def skS (X : Int → Int) (n p : Int) : Int := skF X n 250 p
def dgF (X : Int → Int) (n a : Int) : Nat → Int → Int → Int × Int
  | 0, p, v => (p, v)
  | d + 1, p, v => if dgP X n p then dgF X n a d (p + 1) (if p - a < 3 then 10 * v + X p - 48 else v) else (p, v)
theorem skF_R (X : Int → Int) (n : Int) : ∀ (d : Nat) (p : Int), p ≤ skF X n d p ∧ (p ≤ n → skF X n d p ≤ n) ∧ (n < p → skF X n d p = p) ∧ (n - p ≤ d → ¬ (skF X n d p < n ∧ X (skF X n d p) = 32))
  | 0, p => by
    rw [skF]
    exact ⟨Int.le_refl _, fun h => h, fun _ => rfl, fun h z => by omega⟩
  | d + 1, p => by
    have ih := skF_R X n d (p + 1)
    rw [skF]
    by_cases e : p < n ∧ X p = 32
    · rw [if_pos e]
      exact ⟨by omega, fun _ => ih.2.1 (by omega), fun h => by omega, fun h => ih.2.2.2 (by omega)⟩
    · rw [if_neg e]
      exact ⟨Int.le_refl _, fun h => h, fun _ => rfl, fun _ => e⟩
theorem skS_R (X : Int → Int) {n p : Int} (n1 : n ≤ 250) (p0 : 0 ≤ p) : p ≤ skS X n p ∧ (p ≤ n → skS X n p ≤ n) ∧ (n < p → skS X n p = p) ∧ ¬ (skS X n p < n ∧ X (skS X n p) = 32) := by
  have h := skF_R X n 250 p
  exact ⟨h.1, h.2.1, h.2.2.1, h.2.2.2 (by omega)⟩
theorem skS_fix {X : Int → Int} {n p : Int} (h : ¬ (p < n ∧ X p = 32)) : skS X n p = p := by
  unfold skS
  rw [skF, if_neg h]
theorem dgF_R (X : Int → Int) (n a : Int) : ∀ (d : Nat) (p v : Int), a ≤ p → (0 ≤ v ∧ v ≤ 999 ∧ (p - a = 0 → v = 0) ∧ (p - a = 1 → v ≤ 9) ∧ (p - a = 2 → v ≤ 99)) → p ≤ (dgF X n a d p v).1 ∧ (p ≤ n → (dgF X n a d p v).1 ≤ n) ∧ 0 ≤ (dgF X n a d p v).2 ∧ (dgF X n a d p v).2 ≤ 999
  | 0, p, v, ha, hv => by
    rw [dgF]
    exact ⟨Int.le_refl _, fun h => h, hv.1, hv.2.1⟩
  | d + 1, p, v, ha, hv => by
    rw [dgF]
    by_cases e : dgP X n p
    · rw [if_pos e]
      obtain ⟨e1, e2, e3⟩ := e
      have ih := dgF_R X n a d (p + 1) (if p - a < 3 then 10 * v + X p - 48 else v) (by omega) (by split <;> omega)
      exact ⟨by omega, fun _ => ih.2.1 (by omega), ih.2.2⟩
    · rw [if_neg e]
      exact ⟨Int.le_refl _, fun h => h, hv.1, hv.2.1⟩
def nuE (X : Int → Int) (n p : Int) : Int := if dgP X n (skS X n p) then (dgF X n (skS X n p) 250 (skS X n p) 0).1 else skS X n p
def nuV (X : Int → Int) (n p : Int) : Int := if dgP X n (skS X n p) then (dgF X n (skS X n p) 250 (skS X n p) 0).2 else -1
def nuK (X : Int → Int) (n lo hi p : Int) : Int := if dgP X n (skS X n p) then (if 3 < nuE X n p - skS X n p ∨ nuV X n p < lo ∨ hi < nuV X n p then 2 else 0) else 1
theorem nu_R (X : Int → Int) {n p : Int} (n1 : n ≤ 250) (p0 : 0 ≤ p) : p ≤ skS X n p ∧ skS X n p ≤ nuE X n p ∧ (p ≤ n → nuE X n p ≤ n) ∧ (n < p → nuE X n p = p) ∧ -1 ≤ nuV X n p ∧ nuV X n p ≤ 999 := by
  have s := skS_R X n1 p0
  have d := dgF_R X n (skS X n p) 250 (skS X n p) 0 (Int.le_refl _) (by omega)
  unfold nuE nuV
  by_cases e : dgP X n (skS X n p)
  · rw [if_pos e, if_pos e]
    obtain ⟨e1, e2, e3⟩ := e
    exact ⟨s.1, d.1, fun h => d.2.1 (s.2.1 h), fun h => by have := s.2.2.1 h; omega, by omega, d.2.2.2⟩
  · rw [if_neg e, if_neg e]
    exact ⟨s.1, Int.le_refl _, s.2.1, s.2.2.1, by decide, by decide⟩
theorem nuK_R (X : Int → Int) (n lo hi p : Int) : 0 ≤ nuK X n lo hi p ∧ nuK X n lo hi p ≤ 2 := by
  unfold nuK
  split
  · split <;> decide
  · decide
theorem nu_ok {X : Int → Int} {n lo hi p : Int} (h : nuK X n lo hi p = 0) : dgP X n (skS X n p) ∧ lo ≤ nuV X n p ∧ nuV X n p ≤ hi ∧ nuE X n p - skS X n p ≤ 3 := by
  unfold nuK at h
  by_cases e : dgP X n (skS X n p)
  · rw [if_pos e] at h
    by_cases e2 : 3 < nuE X n p - skS X n p ∨ nuV X n p < lo ∨ hi < nuV X n p
    · rw [if_pos e2] at h
      exact absurd h (by decide)
    · exact ⟨e, by omega, by omega, by omega⟩
  · rw [if_neg e] at h
    exact absurd h (by decide)
theorem dgF_lt {X : Int → Int} {n a p v : Int} {d : Nat} (h : dgP X n p) : dgF X n a (d + 1) p v = dgF X n a d (p + 1) (if p - a < 3 then 10 * v + X p - 48 else v) := by
  rw [dgF, if_pos h]
/-! the class: letters, blanks, numbers -/
def TxC (T : TH) (X : Int → Int) (n : Int) : Prop := T 1 1 0 = n ∧ (0 ≤ n ∧ n ≤ 250) ∧ (∀ i, 0 ≤ i → i < n → T 1 0 i = X i ∧ 0 ≤ X i ∧ X i ≤ 255)
def F1 (T T' : TH) : Prop := ∀ (o j : Nat) (i : Int), ¬ (o = 1 ∧ 2 ≤ j ∧ j ≤ 5) → T' o j i = T o j i
theorem F1.tr {T T1 T2 : TH} (a : F1 T T1) (b : F1 T1 T2) : F1 T T2 := fun o j i h => (b o j i h).trans (a o j i h)
theorem TxC.fr {T T' : TH} {X : Int → Int} {n : Int} (h : TxC T X n) (f : F1 T T') : TxC T' X n := by
  obtain ⟨h1, h2, h3⟩ := h
  refine ⟨(f 1 1 0 (by omega)).trans h1, h2, fun i i0 i1 => ?_⟩
  rw [f 1 0 i (by omega)]
  exact h3 i i0 i1
theorem sp_letterHere {T : TH} {X : Int → Int} {n p : Int} (hT : TxC T X n) (hp : T 1 4 0 = p) (p0 : 0 ≤ p) (p1 : p ≤ 260) {Q : Int → TH → Prop} (hq : Q (if p < n then X p else -1) T) : wp_X4_letterHere T Q := by
  obtain ⟨h1, h2, h3⟩ := hT
  unfold wp_X4_letterHere
  rw [hp, h1]
  refine ⟨by unfold zR; omega, fun h => absurd h (by omega), fun _ => ⟨by unfold zR; omega, by unfold zR; omega, fun h => ?_, fun h => ⟨p0, by omega, ?_⟩⟩⟩
  · rw [if_neg (by omega)] at hq
    exact hq
  · rw [if_pos (by omega)] at hq
    rw [(h3 p p0 (by omega)).1]
    exact hq
theorem lt_R {T : TH} {X : Int → Int} {n p : Int} (hT : TxC T X n) (p0 : 0 ≤ p) : -1 ≤ (if p < n then X p else -1) ∧ (if p < n then X p else -1) ≤ 255 := by
  split
  · rename_i h
    have := hT.2.2 p p0 h
    omega
  · decide
theorem sp_isFigure {T : TH} {X : Int → Int} {n p : Int} (hT : TxC T X n) (hp : T 1 4 0 = p) (p0 : 0 ≤ p) (p1 : p ≤ 260) {Q : Bool → TH → Prop} (hq : Q (decide (dgP X n p)) T) : wp_X4_letterHere T (fun r T1 => wp_X4_isFigure r T1 Q) := by
  have r := lt_R hT p0
  refine sp_letterHere hT hp p0 p1 ?_
  unfold wp_X4_isFigure
  refine ⟨by unfold zR; omega, fun h => ?_, fun h => ⟨by unfold zR; omega, fun h2 => ?_, fun h2 => ?_⟩⟩
  · rw [decide_eq_false (fun z => by rw [if_pos z.1] at h; have := z.2; omega)] at hq
    exact hq
  · rw [decide_eq_false (fun z => by rw [if_pos z.1] at h2; have := z.2; omega)] at hq
    exact hq
  · by_cases e : p < n
    · rw [if_pos e] at h h2
      rw [decide_eq_true (show dgP X n p from ⟨e, by omega, by omega⟩)] at hq
      exact hq
    · rw [if_neg e] at h
      omega
theorem sp_skip {T : TH} {X : Int → Int} {n p : Int} (hT : TxC T X n) (hp : T 1 4 0 = p) (p0 : 0 ≤ p) (p1 : p ≤ 252) {Q : TH → Prop} (hq : ∀ T', T' 1 4 0 = skS X n p → (∀ (o j : Nat) (i : Int), ¬ (o = 1 ∧ j = 4) → T' o j i = T o j i) → Q T') : wp_X4_skipBlanks T Q := by
  unfold wp_X4_skipBlanks
  refine ⟨251, ?_⟩
  have key : ∀ (d : Nat) (p : Int) (T1 : TH), T1 1 4 0 = p → 0 ≤ p → p ≤ 252 → n - p ≤ d → (∀ (o j : Nat) (i : Int), ¬ (o = 1 ∧ j = 4) → T1 o j i = T o j i) → (∀ T', T' 1 4 0 = skF X n d p → (∀ (o j : Nat) (i : Int), ¬ (o = 1 ∧ j = 4) → T' o j i = T o j i) → Q T') → h_X4_skipBlanks_0 Q (d + 1) T1 := by
    intro d
    induction d with
    | zero =>
      intro p T1 hp p0 p1 hd fr hq
      have hT1 : TxC T1 X n := hT.fr (fun o j i hn => fr o j i (by omega))
      have hn := hT1.2.1
      rw [h_X4_skipBlanks_0, hp, hT1.1]
      exact ⟨by unfold zR; omega, by unfold zR; omega, fun _ => hq T1 hp fr, fun h => absurd (by omega) h⟩
    | succ d ih =>
      intro p T1 hp p0 p1 hd fr hq
      have hT1 : TxC T1 X n := hT.fr (fun o j i hn => fr o j i (by omega))
      have hn := hT1.2.1
      have r := lt_R hT1 p0
      rw [skF] at hq
      rw [h_X4_skipBlanks_0, hp, hT1.1]
      refine ⟨by unfold zR; omega, by unfold zR; omega, fun h => ?_, fun h => ?_⟩
      · rw [if_neg (by omega)] at hq
        exact hq T1 hp fr
      · refine sp_letterHere hT1 hp p0 (by omega) ?_
        refine ⟨by unfold zR; omega, fun h2 => ?_, fun h2 => ?_⟩
        · rw [if_pos (by omega)] at h2
          rw [if_neg (fun z => h2 z.2)] at hq
          exact hq T1 hp fr
        · rw [if_pos (by omega)] at h2
          rw [if_pos ⟨by omega, h2⟩] at hq
          rintro _ rfl
          exact ih (p + 1) _ (by rw [up_eq, hp]) (by omega) (by omega) (by omega) (fun o j i hn => by rw [up_ne (by omega)]; exact fr o j i hn) hq
  have hn := hT.2.1
  exact key 250 p T hp p0 p1 (by omega) (fun _ _ _ _ => rfl) hq
theorem sp_blame {T : TH} {k v : Int} (zk : zR (T 1 3 0)) {Q : TH → Prop} (h1 : ¬ T 1 3 0 = 0 → Q T) (h2 : T 1 3 0 = 0 → ∀ T', T' 1 3 0 = k → T' 1 2 0 = v → (∀ (o j : Nat) (i : Int), ¬ (o = 1 ∧ (j = 2 ∨ j = 3)) → T' o j i = T o j i) → Q T') : wp_X4_blame k v T Q := by
  unfold wp_X4_blame
  refine ⟨zk, h1, fun e => ?_⟩
  rintro _ rfl _ rfl
  exact h2 e _ (by rw [up_ne (by omega), up_eq]) (by rw [up_eq]) (fun o j i hn => by rw [up_ne (by omega), up_ne (by omega)])
theorem sp_readNumber {T : TH} {X : Int → Int} {n lo hi p k0 : Int} (hT : TxC T X n) (hp : T 1 4 0 = p) (p0 : 0 ≤ p) (p1 : p ≤ 252) (zl : zR lo) (zh : zR hi) (hk : T 1 3 0 = k0) (k00 : 0 ≤ k0) (k01 : k0 ≤ 4) {Q : Int → TH → Prop} (hq : ∀ T', F1 T T' → T' 1 4 0 = nuE X n p → T' 1 5 0 = skS X n p → T' 1 3 0 = (if k0 = 0 then nuK X n lo hi p else k0) → (T' 1 2 0 = if k0 = 0 ∧ nuK X n lo hi p ≠ 0 then skS X n p else T 1 2 0) → Q (nuV X n p) T') : wp_X4_readNumber lo hi T Q := by
  have hn := hT.2.1
  have sR := skS_R X hn.2 p0
  unfold wp_X4_readNumber
  refine sp_skip hT hp p0 p1 (fun T1 h1 f1 => ?_)
  intro T2 h2
  rw [h1] at h2
  have fr2 : ∀ (o j : Nat) (i : Int), ¬ (o = 1 ∧ (j = 4 ∨ j = 5)) → T2 o j i = T o j i := fun o j i hno => by rw [h2, up_ne (by omega), f1 _ _ _ (by omega)]
  have hT2 : TxC T2 X n := hT.fr (fun o j i hno => fr2 o j i (by omega))
  have a4 : T2 1 4 0 = skS X n p := by rw [h2, up_ne (by omega), h1]
  have a5 : T2 1 5 0 = skS X n p := by rw [h2, up_eq]
  have a3 : T2 1 3 0 = k0 := by rw [fr2 _ _ _ (by omega), hk]
  have s1 : skS X n p ≤ 252 := by
    by_cases e : p ≤ n
    · have := sR.2.1 e
      omega
    · have := sR.2.2.1 (by omega)
      omega
  refine sp_isFigure hT2 a4 (by omega) (by omega) ?_
  refine dec_tf (fun hd => ?_) (fun hd => ?_)
  · have kK : nuK X n lo hi p = if 3 < nuE X n p - skS X n p ∨ nuV X n p < lo ∨ hi < nuV X n p then 2 else 0 := by
      rw [nuK, if_pos hd]
    have kE : nuE X n p = (dgF X n (skS X n p) 250 (skS X n p) 0).1 := by rw [nuE, if_pos hd]
    have kV : nuV X n p = (dgF X n (skS X n p) 250 (skS X n p) 0).2 := by rw [nuV, if_pos hd]
    have nR := nu_R X hn.2 p0
    have en := nR.2.2.1
    have fin : ∀ T3 : TH, T3 1 4 0 = nuE X n p → (∀ (o j : Nat) (i : Int), ¬ (o = 1 ∧ j = 4) → T3 o j i = T2 o j i) → b_X4_readNumber_99 lo hi Q (nuV X n p) T3 := by
      intro T3 g4 fr3
      have g5 : T3 1 5 0 = skS X n p := by rw [fr3 _ _ _ (by omega), a5]
      have g3 : T3 1 3 0 = k0 := by rw [fr3 _ _ _ (by omega), a3]
      have F : F1 T T3 := fun o j i hno => by rw [fr3 _ _ _ (by omega), fr2 _ _ _ (by omega)]
      have g2 : T3 1 2 0 = T 1 2 0 := by rw [fr3 _ _ _ (by omega), fr2 _ _ _ (by omega)]
      have bad : nuK X n lo hi p = 2 → b_X4_readNumber_122 lo hi Q (nuV X n p) T3 := by
        intro hK
        unfold b_X4_readNumber_122
        refine sp_blame (by rw [g3]; unfold zR; omega) (fun z => ?_) (fun z T4 b1 b2 b3 => ?_)
        · rw [g3] at z
          exact hq T3 F g4 g5 (by rw [if_neg z, g3]) (by rw [if_neg (fun w => z w.1), g2])
        · rw [g3] at z
          refine hq T4 (F.tr (fun o j i hno => b3 o j i (by omega))) (by rw [b3 _ _ _ (by omega), g4]) (by rw [b3 _ _ _ (by omega), g5]) (by rw [if_pos z, b1, hK]) ?_
          rw [if_pos ⟨z, by rw [hK]; decide⟩, b2, g5]
      unfold b_X4_readNumber_99
      rw [g4, g5]
      have el : nuE X n p ≤ 252 := by
        by_cases e : p ≤ n
        · have := en e
          omega
        · have := nR.2.2.2.1 (by omega)
          omega
      refine ⟨by unfold zR; omega, fun z => bad ?_, fun z => ⟨by unfold zR; omega, zl, fun z2 => bad ?_, fun z2 => ⟨by unfold zR; omega, zh, fun z3 => ?_, fun z3 => bad ?_⟩⟩⟩
      · rw [kK, if_pos (Or.inl z)]
      · rw [kK, if_pos (Or.inr (Or.inl z2))]
      · have k0' : nuK X n lo hi p = 0 := by rw [kK, if_neg (by omega)]
        refine hq T3 F g4 g5 ?_ (by rw [if_neg (fun w => w.2 k0'), g2])
        rw [g3, k0']
        split <;> omega
      · rw [kK, if_pos (Or.inr (Or.inr (by omega)))]
    refine ⟨251, ?_⟩
    have key : ∀ (d : Nat) (x v : Int) (T3 : TH), T3 1 4 0 = x → 0 ≤ x → x ≤ 252 → n - x ≤ d → (∀ (o j : Nat) (i : Int), ¬ (o = 1 ∧ j = 4) → T3 o j i = T2 o j i) → (∀ T', T' 1 4 0 = (dgF X n (skS X n p) d x v).1 → (∀ (o j : Nat) (i : Int), ¬ (o = 1 ∧ j = 4) → T' o j i = T2 o j i) → b_X4_readNumber_99 lo hi Q (dgF X n (skS X n p) d x v).2 T') → h_X4_readNumber_35 lo hi Q (d + 1) v T3 := by
      intro d
      induction d with
      | zero =>
        intro x v T3 hx x0 x1 hd fr3 hb
        have hT3 : TxC T3 X n := hT2.fr (fun o j i hno => fr3 o j i (by omega))
        rw [h_X4_readNumber_35, hx, hT3.1]
        exact ⟨by unfold zR; omega, by unfold zR; omega, fun _ => hb T3 hx fr3, fun z => absurd (by omega) z⟩
      | succ d ih =>
        intro x v T3 hx x0 x1 hd fr3 hb
        have hT3 : TxC T3 X n := hT2.fr (fun o j i hno => fr3 o j i (by omega))
        have g5 : T3 1 5 0 = skS X n p := by rw [fr3 _ _ _ (by omega), a5]
        rw [dgF] at hb
        rw [h_X4_readNumber_35, hx, hT3.1]
        refine ⟨by unfold zR; omega, by unfold zR; omega, fun z => ?_, fun z => ?_⟩
        · rw [if_neg (fun w => by have := w.1; omega)] at hb
          exact hb T3 hx fr3
        · refine sp_isFigure hT3 hx x0 (by omega) ?_
          refine dec_ft (fun w => ?_) (fun w => ?_)
          · rw [if_neg w] at hb
            exact hb T3 hx fr3
          · rw [if_pos w] at hb
            rw [hx, g5]
            refine ⟨by unfold zR; omega, fun y => ?_, fun y => ?_⟩
            · rw [if_neg (by omega)] at hb
              unfold b_X4_readNumber_85
              rintro _ rfl
              exact ih (x + 1) v _ (by rw [up_eq, hx]) (by omega) (by omega) (by omega) (fun o j i hno => by rw [up_ne (by omega)]; exact fr3 o j i hno) hb
            · rw [if_pos (by omega)] at hb
              refine sp_letterHere hT3 hx x0 (by omega) ?_
              rw [if_pos w.1, show v * 10 + X x - 48 = 10 * v + X x - 48 by omega]
              unfold b_X4_readNumber_85
              rintro _ rfl
              exact ih (x + 1) _ _ (by rw [up_eq, hx]) (by omega) (by omega) (by omega) (fun o j i hno => by rw [up_ne (by omega)]; exact fr3 o j i hno) hb
    refine key 250 (skS X n p) 0 T2 a4 (by omega) s1 (by omega) (fun _ _ _ _ => rfl) (fun T3 g4 fr3 => ?_)
    rw [← kV]
    exact fin T3 (by rw [g4, kE]) fr3
  · have kK : nuK X n lo hi p = 1 := by rw [nuK, if_neg hd]
    have kE : nuE X n p = skS X n p := by rw [nuE, if_neg hd]
    have kV : nuV X n p = -1 := by rw [nuV, if_neg hd]
    have F : F1 T T2 := fun o j i hno => by rw [fr2 _ _ _ (by omega)]
    rw [kV] at hq
    refine sp_blame (by rw [a3]; unfold zR; omega) (fun z => ?_) (fun z T4 b1 b2 b3 => ?_)
    · rw [a3] at z
      exact hq T2 F (by rw [a4, kE]) a5 (by rw [if_neg z, a3]) (by rw [if_neg (fun w => z w.1), fr2 _ _ _ (by omega)])
    · rw [a3] at z
      refine hq T4 (F.tr (fun o j i hno => b3 o j i (by omega))) (by rw [b3 _ _ _ (by omega), a4, kE]) (by rw [b3 _ _ _ (by omega), a5]) (by rw [if_pos z, b1, kK]) ?_
      rw [if_pos ⟨z, by rw [kK]; decide⟩, b2, a4]
def G1 (T T' : TH) (e a : Int) : Prop := F1 T T' ∧ T' 1 3 0 = 0 ∧ T' 1 2 0 = T 1 2 0 ∧ T' 1 4 0 = e ∧ T' 1 5 0 = a
def B1 (T T' : TH) (k pl : Int) : Prop := F1 T T' ∧ T' 1 3 0 = k ∧ T' 1 2 0 = pl ∧ 0 ≤ T' 1 4 0 ∧ T' 1 4 0 ≤ 252
theorem nuE_252 (X : Int → Int) {n p : Int} (n1 : n ≤ 250) (p0 : 0 ≤ p) (p1 : p ≤ 252) : 0 ≤ nuE X n p ∧ nuE X n p ≤ 252 := by
  have nR := nu_R X n1 p0
  by_cases e : p ≤ n
  · have := nR.2.2.1 e
    omega
  · have := nR.2.2.2.1 (by omega)
    omega
theorem sp_num_g {T : TH} {X : Int → Int} {n lo hi p : Int} (hT : TxC T X n) (hp : T 1 4 0 = p) (p0 : 0 ≤ p) (p1 : p ≤ 252) (zl : zR lo) (zh : zR hi) (hk : T 1 3 0 = 0) {Q : Int → TH → Prop} (h0 : nuK X n lo hi p = 0 → ∀ T', G1 T T' (nuE X n p) (skS X n p) → Q (nuV X n p) T') (h1 : nuK X n lo hi p ≠ 0 → ∀ (T' : TH) (v : Int), B1 T T' (nuK X n lo hi p) (skS X n p) → Q v T') : wp_X4_readNumber lo hi T Q := by
  have e2 := nuE_252 X hT.2.1.2 p0 p1
  refine sp_readNumber hT hp p0 p1 zl zh hk (by decide) (by decide) (fun T' f a4 a5 a3 a2 => ?_)
  rw [if_pos rfl] at a3
  by_cases e : nuK X n lo hi p = 0
  · rw [if_neg (fun z => z.2 e)] at a2
    exact h0 e T' ⟨f, by rw [a3, e], a2, a4, a5⟩
  · rw [if_pos ⟨rfl, e⟩] at a2
    exact h1 e T' _ ⟨f, a3, a2, by rw [a4]; exact e2.1, by rw [a4]; exact e2.2⟩
theorem sp_num_b {T : TH} {X : Int → Int} {n lo hi k : Int} (hT : TxC T X n) (p0 : 0 ≤ T 1 4 0) (p1 : T 1 4 0 ≤ 252) (zl : zR lo) (zh : zR hi) (hk : T 1 3 0 = k) (k0 : 0 < k) (k1 : k ≤ 4) {Q : Int → TH → Prop} (h1 : ∀ (T' : TH) (v : Int), B1 T T' k (T 1 2 0) → Q v T') : wp_X4_readNumber lo hi T Q := by
  have e2 := nuE_252 X hT.2.1.2 p0 p1
  refine sp_readNumber hT rfl p0 p1 zl zh hk (by omega) k1 (fun T' f a4 a5 a3 a2 => ?_)
  rw [if_neg (by omega)] at a3
  rw [if_neg (by omega)] at a2
  exact h1 T' _ ⟨f, a3, a2, by rw [a4]; exact e2.1, by rw [a4]; exact e2.2⟩
theorem sp_end_g {T : TH} {X : Int → Int} {n p : Int} (hT : TxC T X n) (hp : T 1 4 0 = p) (p0 : 0 ≤ p) (p1 : p ≤ n) (hk : T 1 3 0 = 0) {Q : TH → Prop} (h0 : (skS X n p < n ∧ X (skS X n p) = 59) → ∀ T', F1 T T' → T' 1 3 0 = 0 → T' 1 2 0 = T 1 2 0 → T' 1 4 0 = skS X n p + 1 → Q T') (h1 : ¬ (skS X n p < n ∧ X (skS X n p) = 59) → ∀ T', F1 T T' → T' 1 3 0 = 1 → T' 1 2 0 = skS X n p → 0 ≤ T' 1 4 0 → T' 1 4 0 ≤ 253 → Q T') : wp_X4_readEnd T Q := by
  have hn := hT.2.1
  have sR := skS_R X hn.2 p0
  have sn := sR.2.1 p1
  unfold wp_X4_readEnd
  refine sp_skip hT hp p0 (by omega) (fun T1 a4 f1 => ?_)
  have hT1 : TxC T1 X n := hT.fr (fun o j i hno => f1 o j i (by omega))
  have r := lt_R hT1 (p := skS X n p) (by omega)
  have F : F1 T T1 := fun o j i hno => f1 o j i (by omega)
  refine sp_letterHere hT1 a4 (by omega) (by omega) ?_
  refine ⟨by unfold zR; omega, fun z => ?_, fun z => ?_⟩
  · unfold b_X4_readEnd_22
    rintro _ rfl
    have c : skS X n p < n ∧ X (skS X n p) = 59 := by
      by_cases e : skS X n p < n
      · rw [if_pos e] at z
        exact ⟨e, z⟩
      · rw [if_neg e] at z
        omega
    refine h0 c _ (F.tr (fun o j i hno => by rw [up_ne (by omega)])) ?_ ?_ (by rw [up_eq, a4])
    · rw [up_ne (by omega), f1 _ _ _ (by omega), hk]
    · rw [up_ne (by omega), f1 _ _ _ (by omega)]
  · have c : ¬ (skS X n p < n ∧ X (skS X n p) = 59) := fun w => by
      rw [if_pos w.1] at z
      exact z w.2
    have a3 : T1 1 3 0 = 0 := by rw [f1 _ _ _ (by omega), hk]
    refine sp_blame (by rw [a3]; exact z0) (fun w => absurd a3 w) (fun _ T2 b1 b2 b3 => ?_)
    unfold b_X4_readEnd_22
    rintro _ rfl
    refine h1 c _ (F.tr (fun o j i hno => by rw [up_ne (by omega), b3 _ _ _ (by omega)])) ?_ ?_ ?_ ?_
    · rw [up_ne (by omega), b1]
    · rw [up_ne (by omega), b2, a4]
    · rw [up_eq, b3 _ _ _ (by omega), a4]
      omega
    · rw [up_eq, b3 _ _ _ (by omega), a4]
      omega
theorem sp_end_b {T : TH} {X : Int → Int} {n k : Int} (hT : TxC T X n) (p0 : 0 ≤ T 1 4 0) (p1 : T 1 4 0 ≤ 252) (hk : T 1 3 0 = k) (k0 : 0 < k) (k1 : k ≤ 4) {Q : TH → Prop} (h1 : ∀ T', F1 T T' → T' 1 3 0 = k → T' 1 2 0 = T 1 2 0 → 0 ≤ T' 1 4 0 → T' 1 4 0 ≤ 253 → Q T') : wp_X4_readEnd T Q := by
  have hn := hT.2.1
  have sR := skS_R X hn.2 p0
  have s1 : skS X n (T 1 4 0) ≤ 252 := by
    by_cases e : T 1 4 0 ≤ n
    · have := sR.2.1 e
      omega
    · have := sR.2.2.1 (by omega)
      omega
  unfold wp_X4_readEnd
  refine sp_skip hT rfl p0 (by omega) (fun T1 a4 f1 => ?_)
  have hT1 : TxC T1 X n := hT.fr (fun o j i hno => f1 o j i (by omega))
  have r := lt_R hT1 (p := skS X n (T 1 4 0)) (by omega)
  have F : F1 T T1 := fun o j i hno => f1 o j i (by omega)
  have fin : b_X4_readEnd_22 Q T1 := by
    unfold b_X4_readEnd_22
    rintro _ rfl
    refine h1 _ (F.tr (fun o j i hno => by rw [up_ne (by omega)])) ?_ ?_ ?_ ?_
    · rw [up_ne (by omega), f1 _ _ _ (by omega), hk]
    · rw [up_ne (by omega), f1 _ _ _ (by omega)]
    · rw [up_eq, a4]
      omega
    · rw [up_eq, a4]
      omega
  have a3 : T1 1 3 0 = k := by rw [f1 _ _ _ (by omega), hk]
  refine sp_letterHere hT1 a4 (by omega) (by omega) ?_
  refine ⟨by unfold zR; omega, fun z => fin, fun z => ?_⟩
  exact sp_blame (by rw [a3]; unfold zR; omega) (fun _ => fin) (fun w => absurd (a3.symm.trans w) (by omega))
