/-! a clause and a text: the class -/
theorem ite_R4 {c : Prop} [Decidable c] {a b : Int} (ha : 0 ≤ a ∧ a ≤ 4) (hb : 0 ≤ b ∧ b ≤ 4) : 0 ≤ (if c then a else b) ∧ (if c then a else b) ≤ 4 := by
  split
  · exact ha
  · exact hb
theorem fwW_R (A : LA) (w : Int) : 0 ≤ fwW A w ∧ fwW A w ≤ 4 := by
  have a0 : (0 : Int) ≤ 0 ∧ (0 : Int) ≤ 4 := by decide
  have a1 : (0 : Int) ≤ 1 ∧ (1 : Int) ≤ 4 := by decide
  have a3 : (0 : Int) ≤ 3 ∧ (3 : Int) ≤ 4 := by decide
  unfold fwW
  exact ite_R4 (ite_R4 a0 a1) (ite_R4 a3 (ite_R4 (ite_R4 a0 a3) (ite_R4 (ite_R4 a0 a3) (ite_R4 (ite_R4 a0 a3) (ite_R4 (ite_R4 a0 a3) (ite_R4 a0 (ite_R4 a0 a1)))))))
theorem fw0 {A : LA} {w : Int} (z : fwW A w = 0) : (A 0 0 = 0 ∧ w = 116) ∨ (A 0 0 ≠ 0 ∧ ((w = 102 ∧ A 1 0 < 8) ∨ (w = 119 ∧ A 2 0 < 12) ∨ (w = 98 ∧ A 3 0 < 4) ∨ (w = 103 ∧ A 4 0 = 0) ∨ w = 107 ∨ w = 109)) := by
  unfold fwW at z
  by_cases e : A 0 0 = 0
  · rw [if_pos e] at z
    by_cases e2 : w = 116
    · exact Or.inl ⟨e, e2⟩
    · rw [if_neg e2] at z
      exact absurd z (by decide)
  · rw [if_neg e] at z
    refine Or.inr ⟨e, ?_⟩
    by_cases e1 : w = 116
    · rw [if_pos e1] at z
      exact absurd z (by decide)
    rw [if_neg e1] at z
    by_cases e2 : w = 102
    · rw [if_pos e2] at z
      by_cases y : A 1 0 < 8
      · omega
      · rw [if_neg y] at z
        exact absurd z (by decide)
    rw [if_neg e2] at z
    by_cases e3 : w = 119
    · rw [if_pos e3] at z
      by_cases y : A 2 0 < 12
      · omega
      · rw [if_neg y] at z
        exact absurd z (by decide)
    rw [if_neg e3] at z
    by_cases e4 : w = 98
    · rw [if_pos e4] at z
      by_cases y : A 3 0 < 4
      · omega
      · rw [if_neg y] at z
        exact absurd z (by decide)
    rw [if_neg e4] at z
    by_cases e5 : w = 103
    · rw [if_pos e5] at z
      by_cases y : A 4 0 = 0
      · omega
      · rw [if_neg y] at z
        exact absurd z (by decide)
    rw [if_neg e5] at z
    by_cases e6 : w = 107
    · omega
    rw [if_neg e6] at z
    by_cases e7 : w = 109
    · omega
    rw [if_neg e7] at z
    exact absurd z (by decide)
theorem sp_fw {T : TH} {o : Nat} {A : LA} {w : Int} (hC : LdC T o A) (hA : LAk A) (zw : zR w) {Q : Int → TH → Prop} (hq : Q (fwW A w) T) : wp_X4_faultOfWord o w T Q := by
  obtain ⟨n0, n1, n2, n3, n4, -⟩ := hA.1
  obtain ⟨c0, c1, c2, c3, c4, -⟩ := hC
  unfold wp_X4_faultOfWord
  rw [c0, c1, c2, c3, c4]
  unfold fwW at hq
  refine ⟨by unfold zR; omega, fun z => ?_, fun z => ?_⟩
  · rw [if_neg z] at hq
    refine ⟨zw, fun e => ?_, fun e => ?_, fun e => ?_, fun e => ?_, fun e => ?_, fun e => ?_, fun e => ?_, fun e1 e2 e3 e4 e5 e6 e7 => ?_⟩
    · rw [if_neg (by omega : ¬ w = 116), if_neg (by omega : ¬ w = 102), if_neg (by omega : ¬ w = 119), if_pos e] at hq
      refine ⟨by unfold zR; omega, fun y => ?_, fun y => ?_⟩
      · rwa [if_neg (by omega : ¬ A 3 0 < 4)] at hq
      · rwa [if_pos (by omega : A 3 0 < 4)] at hq
    · rw [if_neg (by omega : ¬ w = 116), if_pos e] at hq
      refine ⟨by unfold zR; omega, fun y => ?_, fun y => ?_⟩
      · rwa [if_neg (by omega : ¬ A 1 0 < 8)] at hq
      · rwa [if_pos (by omega : A 1 0 < 8)] at hq
    · rw [if_neg (by omega : ¬ w = 116), if_neg (by omega : ¬ w = 102), if_neg (by omega : ¬ w = 119), if_neg (by omega : ¬ w = 98), if_pos e] at hq
      refine ⟨by unfold zR; omega, fun y => ?_, fun y => ?_⟩
      · rwa [if_neg y] at hq
      · rwa [if_pos y] at hq
    · rwa [if_neg (by omega : ¬ w = 116), if_neg (by omega : ¬ w = 102), if_neg (by omega : ¬ w = 119), if_neg (by omega : ¬ w = 98), if_neg (by omega : ¬ w = 103), if_pos e] at hq
    · rwa [if_neg (by omega : ¬ w = 116), if_neg (by omega : ¬ w = 102), if_neg (by omega : ¬ w = 119), if_neg (by omega : ¬ w = 98), if_neg (by omega : ¬ w = 103), if_neg (by omega : ¬ w = 107), if_pos e] at hq
    · rwa [if_pos e] at hq
    · rw [if_neg (by omega : ¬ w = 116), if_neg (by omega : ¬ w = 102), if_pos e] at hq
      refine ⟨by unfold zR; omega, fun y => ?_, fun y => ?_⟩
      · rwa [if_neg (by omega : ¬ A 2 0 < 12)] at hq
      · rwa [if_pos (by omega : A 2 0 < 12)] at hq
    · rwa [if_neg e6, if_neg e2, if_neg e7, if_neg e1, if_neg e3, if_neg e4, if_neg e5] at hq
  · rw [if_pos z] at hq
    refine ⟨zw, fun e => ?_, fun e => ?_⟩
    · rwa [if_neg e] at hq
    · rwa [if_pos e] at hq
theorem sp_clause {T : TH} {X : Int → Int} {n p : Int} {o : Nat} {A : LA} (ho : o = 2 ∨ o = 3) (hT : TxC T X n) (hC : LdC T o A) (hA : LAk A) (hp : T 1 4 0 = p) (p0 : 0 ≤ p) (p1 : p < n) (hk : T 1 3 0 = 0) {Q : TH → Prop} (gd : ∀ (T' : TH) (p' : Int) (A' : LA), F2 o T T' → T' 1 3 0 = 0 → T' 1 2 0 = T 1 2 0 → T' 1 4 0 = p' → p < p' → p' ≤ n → LdC T' o A' → LAk A' → (∀ pl, ClP X n A p 0 pl p' A') → Q T') (bd : ∀ (T' : TH) (k pl : Int), F2 o T T' → T' 1 3 0 = k → 0 < k → k ≤ 4 → T' 1 2 0 = pl → 0 ≤ T' 1 4 0 → T' 1 4 0 ≤ 253 → (∀ p' A', ClP X n A p k pl p' A') → Q T') : wp_X4_readClause o T Q := by
  have hn := hT.2.1
  have hx := hT.2.2 p p0 p1
  have fR := fwW_R A (X p)
  unfold wp_X4_readClause
  refine sp_letterHere hT hp p0 (by omega) ?_
  rw [if_pos p1]
  refine sp_fw hC hA (by unfold zR; omega) ?_
  refine ⟨by unfold zR; omega, fun z => ?_, fun z => ?_⟩
  · intro T5 h5
    have f5 : F1 T T5 := fun o' j i h => by rw [h5, up_ne (by omega)]
    have a4 : T5 1 4 0 = p + 1 := by rw [h5, up_eq, hp]
    have a3 : T5 1 3 0 = 0 := by rw [h5, up_ne (by omega), hk]
    have a2 : T5 1 2 0 = T 1 2 0 := by rw [h5, up_ne (by omega)]
    have hT5 := hT.fr f5
    have hC5 := hC.f1 ho f5
    have G : GdQ X n o A p T5 (fun T6 => b_X4_readClause_149 o Q T6) := by
      intro T6 e A1 F g3 g2 g4 e0 e1 l6 k6 hE
      show b_X4_readClause_149 o Q T6
      unfold b_X4_readClause_149
      have hT6 := hT5.f2 ho F
      have sR := skS_R X hn.2 (p := e) (by omega)
      have sn := sR.2.1 e1
      refine sp_end_g hT6 g4 (by omega) e1 g3 (fun c T7 F7 b3 b2 b4 => ?_) (fun c T7 F7 b3 b2 b40 b41 => ?_)
      · exact gd T7 (skS X n e + 1) A1 ((f5.f2.tr F).tr F7.f2) b3 (by rw [b2, g2, a2]) b4 (by omega) (by omega) (l6.f1 ho F7) k6 (fun pl => Or.inr ⟨z, hE 0 pl _ A1 (Or.inl ⟨c, rfl, rfl, rfl⟩)⟩)
      · exact bd T7 1 (skS X n e) ((f5.f2.tr F).tr F7.f2) b3 (by decide) (by decide) b2 b40 b41 (fun p' A' => Or.inr ⟨z, hE 1 _ p' A' (Or.inr ⟨c, rfl, rfl⟩)⟩)
    have B : BdQ X n o A p T5 (fun T6 => b_X4_readClause_149 o Q T6) := by
      intro T6 k pl F g3 k0 k1 g2 g40 g41 hB
      show b_X4_readClause_149 o Q T6
      unfold b_X4_readClause_149
      refine sp_end_b (hT5.f2 ho F) g40 g41 g3 k0 k1 (fun T7 F7 b3 b2 b40 b41 => ?_)
      exact bd T7 k pl ((f5.f2.tr F).tr F7.f2) b3 k0 k1 (by rw [b2, g2]) b40 b41 (fun p' A' => Or.inr ⟨z, hB p' A'⟩)
    have w0 := fw0 z
    refine ⟨by unfold zR; omega, fun e => ?_, fun e => ?_, fun e => ?_, fun e => ?_, fun e => ?_, fun e => ?_, fun e1 e2 e3 e4 e5 e6 => ?_⟩
    · exact sp_bBridge ho hT5 hC5 hA (by omega) e a4 p0 p1 a3 G B
    · exact sp_bFact ho hT5 hC5 hA (by omega) e a4 p0 p1 a3 G B
    · exact sp_bKnown ho hT5 hC5 hA e a4 p0 p1 a3 G B
    · exact sp_bQuiet ho hT5 hC5 hA e a4 p0 p1 a3 G B
    · exact sp_bPeople ho hT5 hC5 hA (by omega) e a4 p0 p1 a3 G B
    · exact sp_bPair ho hT5 hC5 hA (by omega) e a4 p0 p1 a3 G B
    · exact sp_bHours ho hT5 hC5 hA (by omega) a4 p0 p1 a3 G B
  · refine sp_blame (zR3 hk (by decide) (by decide)) (fun w => absurd hk w) (fun _ T2 b1 b2 b3 => ?_)
    refine bd T2 (fwW A (X p)) p (fun o' j i h1 h2 => b3 _ _ _ (by omega)) b1 (by omega) fR.2 (by rw [b2, hp]) ?_ ?_ (fun p' A' => Or.inl ⟨z, rfl, rfl⟩)
    · rw [b3 _ _ _ (by omega), hp]
      exact p0
    · rw [b3 _ _ _ (by omega), hp]
      omega
theorem sp_skip_b {T : TH} {X : Int → Int} {n : Int} (hT : TxC T X n) (p0 : 0 ≤ T 1 4 0) (p1 : T 1 4 0 ≤ 253) {Q : TH → Prop} (hq : ∀ T', (∀ (o j : Nat) (i : Int), ¬ (o = 1 ∧ j = 4) → T' o j i = T o j i) → 0 ≤ T' 1 4 0 → T' 1 4 0 ≤ 253 → Q T') : wp_X4_skipBlanks T Q := by
  have hn := hT.2.1
  by_cases e : T 1 4 0 ≤ 252
  · have sR := skS_R X hn.2 p0
    refine sp_skip hT rfl p0 e (fun T' a f => hq T' f ?_ ?_)
    · omega
    · rw [a]
      by_cases e2 : T 1 4 0 ≤ n
      · have := sR.2.1 e2
        omega
      · have := sR.2.2.1 (by omega)
        omega
  · unfold wp_X4_skipBlanks
    refine ⟨1, ?_⟩
    rw [h_X4_skipBlanks_0, hT.1]
    exact ⟨by unfold zR; omega, by unfold zR; omega, fun _ => hq T (fun _ _ _ _ => rfl) p0 p1, fun h => absurd (by omega) h⟩
def ld0 : LA := fun _ _ => 0
theorem ld0_0 (j : Nat) (i : Int) : ld0 j i = 0 := rfl
theorem LAk_0 : LAk ld0 := by
  unfold LAk LAok
  simp only [ld0_0]
  refine ⟨⟨by decide, by decide, by decide, by decide, by decide, ms_0 7, fun f f0 f1 => by omega, fun f f0 f1 => by omega, fun f f0 f1 => by omega⟩, fun f f0 f1 => by omega⟩
theorem sp_clear {T : TH} {o : Nat} {Q : TH → Prop} (hq : ∀ T', LdC T' o ld0 → (∀ (o' j : Nat) (i : Int), ¬ o' = o → T' o' j i = T o' j i) → Q T') : wp_X3_clear o T Q := by
  unfold wp_X3_clear
  intro T1 h1 T2 h2 T3 h3 T4 h4 T5 h5 T6 h6 T7 h7 T8 h8
  refine sp_fill (by decide) (fun T9 f9 g9 => sp_fill (by decide) (fun T10 f10 g10 => sp_fill (by decide) (fun T11 f11 g11 => ?_)))
  have z : ∀ j : Nat, j ≤ 7 → T11 o j 0 = 0 := fun j hj => by
    rw [g11 _ _ _ (by omega), g10 _ _ _ (by omega), g9 _ _ _ (by omega), h8]
    by_cases e7 : j = 7
    · rw [e7, up_eq]
    rw [up_ne (by omega), h7]
    by_cases e6 : j = 6
    · rw [e6, up_eq]
    rw [up_ne (by omega), h6]
    by_cases e5 : j = 5
    · rw [e5, up_eq]
    rw [up_ne (by omega), h5]
    by_cases e4 : j = 4
    · rw [e4, up_eq]
    rw [up_ne (by omega), h4]
    by_cases e3 : j = 3
    · rw [e3, up_eq]
    rw [up_ne (by omega), h3]
    by_cases e2 : j = 2
    · rw [e2, up_eq]
    rw [up_ne (by omega), h2]
    by_cases e1 : j = 1
    · rw [e1, up_eq]
    rw [up_ne (by omega), h1]
    have e0 : j = 0 := by omega
    rw [e0, up_eq]
  have z10 : ∀ f : Int, 0 ≤ f → f < 8 → T11 o 10 f = 0 := fun f f0 f1 => by
    rw [g11 _ _ _ (by omega), g10 _ _ _ (by omega), f9 f f0 (by omega)]
  have z11 : ∀ f : Int, 0 ≤ f → f < 7 → T11 o 11 f = 0 := fun f f0 f1 => by
    rw [g11 _ _ _ (by omega), f10 f f0 (by omega)]
  have z12 : ∀ f : Int, 0 ≤ f → f < 7 → T11 o 12 f = 0 := fun f f0 f1 => f11 f f0 (by omega)
  refine hq T11 ?_ (fun o' j i hn => ?_)
  · unfold LdC
    simp only [ld0_0]
    refine ⟨z 0 (by decide), z 1 (by decide), z 2 (by decide), z 3 (by decide), z 4 (by decide), z 5 (by decide), ⟨?_, fun f f0 f1 => ?_⟩, fun f f0 f1 => by omega, fun p p0 p1 => ⟨?_, fun f f0 f1 => ?_⟩, fun p p0 p1 => ⟨?_, fun q q0 q1 => ?_⟩, fun k k0 k1 => by omega, fun b b0 b1 => by omega, ⟨?_, fun f f0 f1 => ?_⟩, fun f f0 f1 => ?_⟩
    · rw [z 6 (by decide)]
      exact ms_0 8
    · rw [z 6 (by decide), bt_0]
      exact (decide_eq_false (fun y => by have := y.1; omega)).symm
    · rw [z11 p p0 p1]
      exact ms_0 8
    · rw [z11 p p0 p1, bt_0]
      exact (decide_eq_false (fun y => by have := y.1; omega)).symm
    · rw [z12 p p0 p1]
      exact ms_0 7
    · rw [z12 p p0 p1, bt_0]
      rfl
    · rw [z 7 (by decide)]
      exact ms_0 8
    · rw [z 7 (by decide), bt_0]
      exact (decide_eq_false (fun y => by have := y.1; omega)).symm
    · rw [z10 f f0 f1]
      exact (if_neg (show ¬ (f < (0 : Int) ∧ (0 : Int) ≠ -1) from fun y => absurd y.1 (by omega))).symm
  · rw [g11 _ _ _ (by omega), g10 _ _ _ (by omega), g9 _ _ _ (by omega), h8, up_ne (by omega), h7, up_ne (by omega), h6, up_ne (by omega), h5, up_ne (by omega), h4, up_ne (by omega), h3, up_ne (by omega), h2, up_ne (by omega), h1, up_ne (by omega)]
/-- a text from a place on, read clause by clause: the first fault's kind and place, or the land -/
def RdP (X : Int → Int) (n : Int) : Nat → LA → Int → Int → Int → LA → Prop
  | 0, A, _, k, _, A' => k = 0 ∧ A' = A
  | d + 1, A, p, k, pl, A' => (n ≤ p ∧ k = 0 ∧ A' = A) ∨ (p < n ∧ ((∃ (p' : Int) (A1 : LA), (p < p' ∧ p' ≤ n) ∧ LAk A1 ∧ ClP X n A p 0 0 p' A1 ∧ RdP X n d A1 (skS X n p') k pl A') ∨ ((0 < k ∧ k ≤ 4) ∧ ClP X n A p k pl 0 A)))
theorem sp_readInto {T : TH} {X : Int → Int} {n : Int} {o : Nat} (ho : o = 2 ∨ o = 3) (hT : TxC T X n) {Q : Int → TH → Prop} (h0 : ∀ (T' : TH) (A' : LA), F2 o T T' → T' 1 2 0 = -1 → LdC T' o A' → LAk A' → (∀ pl, RdP X n 250 ld0 (skS X n 0) 0 pl A') → Q 0 T') (h1 : ∀ (T' : TH) (k pl : Int), F2 o T T' → T' 1 2 0 = pl → 0 < k → k ≤ 4 → (∀ A', RdP X n 250 ld0 (skS X n 0) k pl A') → Q k T') : wp_X4_readInto o T Q := by
  have hn := hT.2.1
  have key : ∀ (d : Nat) (v p : Int) (T1 : TH) (A : LA), v + d = 250 → T1 1 4 0 = p → v ≤ p → 0 ≤ v → p ≤ n → LdC T1 o A → LAk A → T1 1 3 0 = 0 → T1 1 2 0 = -1 → F2 o T T1 →
      (∀ (T' : TH) (A' : LA), F2 o T T' → T' 1 2 0 = -1 → LdC T' o A' → LAk A' → (∀ pl, RdP X n d A p 0 pl A') → Q 0 T') →
      (∀ (T' : TH) (k pl : Int), F2 o T T' → T' 1 2 0 = pl → 0 < k → k ≤ 4 → (∀ A', RdP X n d A p k pl A') → Q k T') → h_X4_readInto_25 o Q (d + 1) v T1 := by
    intro d
    induction d with
    | zero =>
      intro v p T1 A hv hp vp v0 pn hC hA a3 a2 F g0 g1
      rw [h_X4_readInto_25, a3]
      refine ⟨by unfold zR; omega, fun _ => ?_, fun h => absurd (by omega) h⟩
      exact g0 T1 A F a2 hC hA (fun pl => by rw [RdP]; exact ⟨rfl, rfl⟩)
    | succ d ih =>
      intro v p T1 A hv hp vp v0 pn hC hA a3 a2 F g0 g1
      have hT1 := hT.f2 ho F
      rw [h_X4_readInto_25, a3, hp, hT1.1]
      refine ⟨by unfold zR; omega, fun h => absurd h (by omega), fun _ => ⟨by unfold zR; omega, by unfold zR; omega, fun h => ?_, fun h => ⟨z0, fun w => absurd rfl w, fun _ => ?_⟩⟩⟩
      · exact g0 T1 A F a2 hC hA (fun pl => by rw [RdP]; exact Or.inl ⟨h, rfl, rfl⟩)
      · refine sp_clause ho hT1 hC hA hp (by omega) (by omega) a3 (fun T2 p' A' F2' b3 b2 b4 pp pn' C2 K2 hcl => ?_) (fun T2 k pl F2' b3 k0 k1 b2 b40 b41 hcl => ?_)
        · have sR := skS_R X hn.2 (p := p') (by omega)
          have sn := sR.2.1 pn'
          refine sp_skip (hT1.f2 ho F2') b4 (by omega) (by omega) (fun T3 c4 fr3 => ?_)
          refine ih (v + 1) (skS X n p') T3 A' (by omega) c4 (by omega) (by omega) sn (C2.eq (fun j i => fr3 _ _ _ (by omega))) K2 (by rw [fr3 _ _ _ (by omega), b3]) (by rw [fr3 _ _ _ (by omega), b2, a2]) ((F.tr F2').tr (fun o' j i q1 q2 => fr3 _ _ _ (by omega))) (fun T' A2 G1 G2 G3 G4 hR => ?_) (fun T' k pl G1 G2 k0 k1 hR => ?_)
          · refine g0 T' A2 G1 G2 G3 G4 (fun pl => ?_)
            rw [RdP]
            exact Or.inr ⟨by omega, Or.inl ⟨p', A', ⟨pp, pn'⟩, K2, hcl 0, hR pl⟩⟩
          · refine g1 T' k pl G1 G2 k0 k1 (fun A2 => ?_)
            rw [RdP]
            exact Or.inr ⟨by omega, Or.inl ⟨p', A', ⟨pp, pn'⟩, K2, hcl 0, hR A2⟩⟩
        · refine sp_skip_b (hT1.f2 ho F2') b40 b41 (fun T3 fr3 c40 c41 => ?_)
          have c3 : T3 1 3 0 = k := by rw [fr3 _ _ _ (by omega), b3]
          have F3 : F2 o T T3 := (F.tr F2').tr (fun o' j i q1 q2 => fr3 _ _ _ (by omega))
          have hT3 := hT.f2 ho F3
          have fin : Q k T3 := g1 T3 k pl F3 (by rw [fr3 _ _ _ (by omega), b2]) k0 k1 (fun A2 => by rw [RdP]; exact Or.inr ⟨by omega, Or.inr ⟨⟨k0, k1⟩, hcl 0 A⟩⟩)
          rw [h_X4_readInto_25, c3, hT3.1]
          exact ⟨by unfold zR; omega, fun _ => fin, fun _ => ⟨by unfold zR; omega, by unfold zR; omega, fun _ => fin, fun _ => ⟨by unfold zR; omega, fun _ => fin, fun w => absurd w (by omega)⟩⟩⟩
  unfold wp_X4_readInto
  refine sp_clear (fun T1 C1 f1 => ?_)
  intro T2 e2 T3 e3 T4 e4
  have fr : ∀ (o' j : Nat) (i : Int), ¬ (o' = 1 ∧ 2 ≤ j ∧ j ≤ 5) → T4 o' j i = T1 o' j i := fun o' j i h => by
    rw [e4, up_ne (by omega), e3, up_ne (by omega), e2, up_ne (by omega)]
  have F4 : F2 o T T4 := fun o' j i q1 q2 => by rw [fr _ _ _ q1, f1 _ _ _ q2]
  have sR := skS_R X hn.2 (p := 0) (by decide)
  have sn := sR.2.1 hn.1
  refine sp_skip (hT.f2 ho F4) (p := 0) (by rw [e4, up_ne (by omega), e3, up_ne (by omega), e2, up_eq]) (by decide) (by decide) (fun T5 c4 fr5 => ?_)
  refine ⟨251, key 250 0 (skS X n 0) T5 ld0 (by decide) c4 sR.1 (by decide) sn (C1.eq (fun j i => by rw [fr5 _ _ _ (by omega), fr _ _ _ (by omega)])) LAk_0 ?_ ?_ (F4.tr (fun o' j i q1 q2 => fr5 _ _ _ (by omega))) h0 h1⟩
  · rw [fr5 _ _ _ (by omega), e4, up_ne (by omega), e3, up_eq]
  · rw [fr5 _ _ _ (by omega), e4, up_eq]
theorem sp_begin {T : TH} {o : Nat} {A : LA} (ho : o = 2 ∨ o = 3) (hA : LAk A) (hC : LdC T o A) {Q : TH → Prop} (hq : ∀ T', T' 4 0 0 = 0 → (∀ f, 0 ≤ f → f < 8 → T' 4 2 f = if f < A 1 0 ∧ A 12 f ≠ -1 then A 12 f else 0) → (∀ i, 0 ≤ i → i < 56 → T' 4 4 i = 0) → (∀ (o' j : Nat) (i : Int), ¬ (o' = 4 ∧ (j = 0 ∨ j = 2 ∨ j = 4)) → T' o' j i = T o' j i) → Q T') : wp_X2_begin 4 o T Q := by
  have n1 := hA.1.2.1
  have c1 := hC.2.1
  have c10 := hC.2.2.2.2.2.2.2.2.2.2.2.2.2
  unfold wp_X2_begin
  intro T1 h1
  refine sp_fill (by decide) (fun T2 f2 g2 => sp_fill (by decide) (fun T3 f3 g3 => ?_))
  refine ⟨(A 1 0).toNat + 1, ?_⟩
  have key : ∀ (d i : Nat) (T4 : TH), i + d = (A 1 0).toNat → (∀ f : Int, 0 ≤ f → f < i → T4 4 2 f = if f < A 1 0 ∧ A 12 f ≠ -1 then A 12 f else 0) → (∀ f : Int, (i : Int) ≤ f → f < 8 → T4 4 2 f = 0) → (∀ (o' j : Nat) (x : Int), ¬ (o' = 4 ∧ j = 2) → T4 o' j x = T3 o' j x) → h_X2_begin_23 4 o Q (d + 1) i T4 := by
    intro d
    induction d with
    | zero =>
      intro i T4 hi k1 k2 fr
      have e1 : T4 o 1 0 = A 1 0 := by rw [fr _ _ _ (by omega), g3 _ _ _ (by omega), g2 _ _ _ (by omega), h1, up_ne (by omega), c1]
      rw [h_X2_begin_23, e1]
      refine ⟨by unfold zR; omega, by unfold zR; omega, fun _ => ?_, fun h => absurd (by omega) h⟩
      refine hq T4 ?_ (fun f f0 f1 => ?_) (fun x x0 x1 => ?_) (fun o' j x hn => ?_)
      · rw [fr _ _ _ (by omega), g3 _ _ _ (by omega), g2 _ _ _ (by omega), h1, up_eq]
      · by_cases e : f < i
        · exact k1 f f0 e
        · rw [k2 f (by omega) f1, if_neg (fun y => by have := y.1; omega)]
      · rw [fr _ _ _ (by omega), f3 x x0 (by omega)]
      · rw [fr _ _ _ (by omega), g3 _ _ _ (by omega), g2 _ _ _ (by omega), h1, up_ne (by omega)]
    | succ d ih =>
      intro i T4 hi k1 k2 fr
      have eo : ∀ (j : Nat) (x : Int), T4 o j x = T o j x := fun j x => by rw [fr _ _ _ (by omega), g3 _ _ _ (by omega), g2 _ _ _ (by omega), h1, up_ne (by omega)]
      rw [h_X2_begin_23, eo, c1, eo]
      refine ⟨by unfold zR; omega, by unfold zR; omega, fun h => absurd h (by omega), fun _ => ⟨by omega, by omega, by omega, by omega, ?_⟩⟩
      rintro _ rfl
      refine ih (i + 1) _ (by omega) (fun f f0 f1 => ?_) (fun f f0 f1 => ?_) (fun o' j x hn => ?_)
      · by_cases e : f = i
        · rw [e, up_eq, c10 i (by omega) (by omega)]
        · rw [up_ne (by omega)]
          exact k1 f f0 (by omega)
      · rw [up_ne (by omega)]
        exact k2 f (by omega) f1
      · rw [up_ne (by omega)]
        exact fr o' j x hn
  exact key (A 1 0).toNat 0 T3 (by omega) (fun f f0 f1 => by omega) (fun f f0 f1 => by rw [g3 _ _ _ (by omega), f2 f f0 (by omega)]) (fun _ _ _ _ => rfl)
