/-! a clause: the class reads it -/
def F2 (o : Nat) (T T' : TH) : Prop := ∀ (o' j : Nat) (i : Int), ¬ (o' = 1 ∧ 2 ≤ j ∧ j ≤ 5) → ¬ o' = o → T' o' j i = T o' j i
theorem F1.f2 {o : Nat} {T T' : TH} (h : F1 T T') : F2 o T T' := fun o' j i h1 _ => h o' j i h1
theorem F2.tr {o : Nat} {T T1 T2 : TH} (a : F2 o T T1) (b : F2 o T1 T2) : F2 o T T2 := fun o' j i h1 h2 => (b o' j i h1 h2).trans (a o' j i h1 h2)
theorem TxC.f2 {T T' : TH} {X : Int → Int} {n : Int} {o : Nat} (h : TxC T X n) (ho : o = 2 ∨ o = 3) (f : F2 o T T') : TxC T' X n := by
  obtain ⟨h1, h2, h3⟩ := h
  refine ⟨(f 1 1 0 (by omega) (by omega)).trans h1, h2, fun i i0 i1 => ?_⟩
  rw [f 1 0 i (by omega) (by omega)]
  exact h3 i i0 i1
theorem LdC.f1 {T T' : TH} {o : Nat} {A : LA} (H : LdC T o A) (ho : o = 2 ∨ o = 3) (f : F1 T T') : LdC T' o A := H.eq (fun j i => f o j i (by omega))
/-- what stands behind a clause's body -/
def GdQ (X : Int → Int) (n : Int) (o : Nat) (A : LA) (p : Int) (T : TH) (Q : TH → Prop) : Prop := ∀ (T6 : TH) (e : Int) (A1 : LA), F2 o T T6 → T6 1 3 0 = 0 → T6 1 2 0 = T 1 2 0 → T6 1 4 0 = e → p < e → e ≤ n → LdC T6 o A1 → LAk A1 → (∀ k pl p' A', EnP X n e A1 k pl p' A' → BoP X n A p k pl p' A') → Q T6
def BdQ (X : Int → Int) (n : Int) (o : Nat) (A : LA) (p : Int) (T : TH) (Q : TH → Prop) : Prop := ∀ (T6 : TH) (k pl : Int), F2 o T T6 → T6 1 3 0 = k → 0 < k → k ≤ 4 → T6 1 2 0 = pl → 0 ≤ T6 1 4 0 → T6 1 4 0 ≤ 252 → (∀ p' A', BoP X n A p k pl p' A') → Q T6
theorem nuK_p {X : Int → Int} {n lo hi p : Int} (h : nuK X n lo hi p ≠ 0) : 0 < nuK X n lo hi p ∧ nuK X n lo hi p ≤ 4 := by
  have := nuK_R X n lo hi p
  omega
theorem zR3 {T : TH} {k : Int} (h : T 1 3 0 = k) (h0 : 0 ≤ k) (h1 : k ≤ 4) : zR (T 1 3 0) := by
  rw [h]
  unfold zR
  omega
theorem sp_bPeople {T : TH} {X : Int → Int} {n p : Int} {o : Nat} {A : LA} (ho : o = 2 ∨ o = 3) (hT : TxC T X n) (hC : LdC T o A) (hA : LAk A) (hz : A 0 0 = 0) (hX : X p = 116) (hp : T 1 4 0 = p + 1) (p0 : 0 ≤ p) (p1 : p < n) (hk : T 1 3 0 = 0) {Q : TH → Prop} (gd : GdQ X n o A p T Q) (bd : BdQ X n o A p T Q) : wp_X4_readPeople o T Q := by
  have hn := hT.2.1
  have nR := nu_R X hn.2 (p := p + 1) (by omega)
  unfold wp_X4_readPeople
  refine sp_num_g hT hp (by omega) (by omega) (by unfold zR; omega) (by unfold zR; omega) hk (fun hK T1 g => ?_) (fun hK T1 v b => ?_)
  · obtain ⟨f1, a3, a2, a4, a5⟩ := g
    have ok := nu_ok hK
    refine ⟨zR3 a3 (by decide) (by decide), fun z => absurd a3 z, fun _ => ?_⟩
    rintro _ rfl
    refine gd _ (nuE X n (p + 1)) (setA A 0 0 (nuV X n (p + 1))) (f1.f2.tr (fun o' j i h1 h2 => up_ne (by omega))) ?_ ?_ ?_ (by omega) (nR.2.2.1 (by omega)) (LdC_j (Or.inl rfl) (hC.f1 ho f1)) (LAk_t hA hz ok.2.1 ok.2.2.1).1 (fun k pl p' A' hE => Or.inl ⟨hX, Or.inr ⟨hK, hE⟩⟩)
    · rw [up_ne (by omega), a3]
    · rw [up_ne (by omega), a2]
    · rw [up_ne (by omega), a4]
  · obtain ⟨f1, a3, a2, a40, a41⟩ := b
    have kp := nuK_p hK
    refine ⟨zR3 a3 (by omega) kp.2, fun _ => ?_, fun z => absurd (a3.symm.trans z) hK⟩
    exact bd T1 _ _ f1.f2 a3 kp.1 kp.2 a2 a40 a41 (fun p' A' => Or.inl ⟨hX, Or.inl ⟨hK, rfl, rfl⟩⟩)
theorem sp_bHours {T : TH} {X : Int → Int} {n p : Int} {o : Nat} {A : LA} (ho : o = 2 ∨ o = 3) (hT : TxC T X n) (hC : LdC T o A) (hA : LAk A) (hX : X p = 103) (hp : T 1 4 0 = p + 1) (p0 : 0 ≤ p) (p1 : p < n) (hk : T 1 3 0 = 0) {Q : TH → Prop} (gd : GdQ X n o A p T Q) (bd : BdQ X n o A p T Q) : wp_X4_readMemory o T Q := by
  have hn := hT.2.1
  have nR := nu_R X hn.2 (p := p + 1) (by omega)
  unfold wp_X4_readMemory
  refine sp_num_g hT hp (by omega) (by omega) (by unfold zR; omega) (by unfold zR; omega) hk (fun hK T1 g => ?_) (fun hK T1 v b => ?_)
  · obtain ⟨f1, a3, a2, a4, a5⟩ := g
    have ok := nu_ok hK
    refine ⟨zR3 a3 (by decide) (by decide), fun z => absurd a3 z, fun _ => ?_⟩
    rintro _ rfl
    refine gd _ (nuE X n (p + 1)) (setA A 4 0 (nuV X n (p + 1))) (f1.f2.tr (fun o' j i h1 h2 => up_ne (by omega))) ?_ ?_ ?_ (by omega) (nR.2.2.1 (by omega)) (LdC_j (Or.inr (Or.inl rfl)) (hC.f1 ho f1)) (LAk_j hA (Or.inl ⟨rfl, ok.2.1, ok.2.2.1⟩)) (fun k pl p' A' hE => Or.inr (Or.inr (Or.inr (Or.inr (Or.inr (Or.inr ⟨hX, Or.inr ⟨hK, hE⟩⟩))))))
    · rw [up_ne (by omega), a3]
    · rw [up_ne (by omega), a2]
    · rw [up_ne (by omega), a4]
  · obtain ⟨f1, a3, a2, a40, a41⟩ := b
    have kp := nuK_p hK
    refine ⟨zR3 a3 (by omega) kp.2, fun _ => ?_, fun z => absurd (a3.symm.trans z) hK⟩
    exact bd T1 _ _ f1.f2 a3 kp.1 kp.2 a2 a40 a41 (fun p' A' => Or.inr (Or.inr (Or.inr (Or.inr (Or.inr (Or.inr ⟨hX, Or.inl ⟨hK, rfl, rfl⟩⟩))))))
theorem sp_bBridge {T : TH} {X : Int → Int} {n p : Int} {o : Nat} {A : LA} (ho : o = 2 ∨ o = 3) (hT : TxC T X n) (hC : LdC T o A) (hA : LAk A) (hm : A 3 0 < 4) (hX : X p = 98) (hp : T 1 4 0 = p + 1) (p0 : 0 ≤ p) (p1 : p < n) (hk : T 1 3 0 = 0) {Q : TH → Prop} (gd : GdQ X n o A p T Q) (bd : BdQ X n o A p T Q) : wp_X4_readBridge o T Q := by
  have hn := hT.2.1
  have nR := nu_R X hn.2 (p := p + 1) (by omega)
  have n3 := hA.1.2.2.2.1
  unfold wp_X4_readBridge
  refine sp_num_g hT hp (by omega) (by omega) (by unfold zR; omega) (by unfold zR; omega) hk (fun hK T1 g => ?_) (fun hK T1 v b => ?_)
  · obtain ⟨f1, a3, a2, a4, a5⟩ := g
    have ok := nu_ok hK
    have C1 := hC.f1 ho f1
    rw [C1.2.2.2.1]
    refine ⟨zR3 a3 (by decide) (by decide), fun z => absurd a3 z, fun _ => ⟨n3.1, hm, ?_⟩⟩
    intro T3 h3
    have e3 : T3 o 3 0 = A 3 0 := by rw [h3, up_ne (by omega), C1.2.2.2.1]
    rw [e3]
    intro T4 h4
    rw [h3] at h4
    subst h4
    refine gd _ (nuE X n (p + 1)) (adB A (nuV X n (p + 1))) (f1.f2.tr (fun o' j i h1 h2 => by rw [up_ne (by omega), up_ne (by omega)])) ?_ ?_ ?_ (by omega) (nR.2.2.1 (by omega)) (LdC_b C1) (LAk_b hA hm ok.2.1 ok.2.2.1) (fun k pl p' A' hE => Or.inr (Or.inr (Or.inr (Or.inr (Or.inr (Or.inl ⟨hX, Or.inr ⟨hK, hE⟩⟩))))))
    · rw [up_ne (by omega), up_ne (by omega), a3]
    · rw [up_ne (by omega), up_ne (by omega), a2]
    · rw [up_ne (by omega), up_ne (by omega), a4]
  · obtain ⟨f1, a3, a2, a40, a41⟩ := b
    have kp := nuK_p hK
    refine ⟨zR3 a3 (by omega) kp.2, fun _ => ?_, fun z => absurd (a3.symm.trans z) hK⟩
    exact bd T1 _ _ f1.f2 a3 kp.1 kp.2 a2 a40 a41 (fun p' A' => Or.inr (Or.inr (Or.inr (Or.inr (Or.inr (Or.inl ⟨hX, Or.inl ⟨hK, rfl, rfl⟩⟩))))))
theorem sp_bQuiet {T : TH} {X : Int → Int} {n p : Int} {o : Nat} {A : LA} (ho : o = 2 ∨ o = 3) (hT : TxC T X n) (hC : LdC T o A) (hA : LAk A) (hX : X p = 109) (hp : T 1 4 0 = p + 1) (p0 : 0 ≤ p) (p1 : p < n) (hk : T 1 3 0 = 0) {Q : TH → Prop} (gd : GdQ X n o A p T Q) (bd : BdQ X n o A p T Q) : wp_X4_readQuiet o T Q := by
  have hn := hT.2.1
  have nR := nu_R X hn.2 (p := p + 1) (by omega)
  have n0 := hA.1.1
  have m5 := hA.1.2.2.2.2.2.1
  unfold wp_X4_readQuiet wp_X4_readPerson
  rw [hC.1]
  refine sp_num_g hT hp (by omega) (by omega) (by unfold zR; omega) (by unfold zR; omega) hk (fun hK T1 g => ?_) (fun hK T1 v b => ?_)
  · obtain ⟨f1, a3, a2, a4, a5⟩ := g
    have ok := nu_ok hK
    have C1 := hC.f1 ho f1
    refine ⟨zR3 a3 (by decide) (by decide), fun z => absurd a3 z, fun _ => ?_⟩
    refine sp_isQuiet hA.1 (C1.land hA.1) ok.2.1 (by omega) ?_
    refine ⟨fun hb => ?_, fun hb => ?_⟩
    · unfold b_X4_readQuiet_30
      refine ⟨zR3 a3 (by decide) (by decide), fun z => absurd a3 z, fun _ => ?_⟩
      rw [C1.2.2.2.2.2.1]
      rintro _ rfl
      have pb := (put_b (k := nuV X n (p + 1)) m5 ok.2.1 (by omega) (by decide)).1
      refine gd _ (nuE X n (p + 1)) (setA A 5 0 (zor (A 5 0) (zshl 1 (nuV X n (p + 1))))) (f1.f2.tr (fun o' j i h1 h2 => up_ne (by omega))) ?_ ?_ ?_ (by omega) (nR.2.2.1 (by omega)) (LdC_j (Or.inr (Or.inr rfl)) C1) (LAk_j hA (Or.inr ⟨rfl, pb⟩)) (fun k pl p' A' hE => Or.inr (Or.inr (Or.inr (Or.inr (Or.inl ⟨hX, Or.inr ⟨hK, Or.inr ⟨by rw [hb]; decide, hE⟩⟩⟩)))))
      · rw [up_ne (by omega), a3]
      · rw [up_ne (by omega), a2]
      · rw [up_ne (by omega), a4]
    · refine sp_blame (zR3 a3 (by decide) (by decide)) (fun z => absurd a3 z) (fun _ T2 b1 b2 b3 => ?_)
      unfold b_X4_readQuiet_30
      refine ⟨zR3 b1 (by decide) (by decide), fun _ => ?_, fun z => absurd (b1.symm.trans z) (by decide)⟩
      refine bd T2 4 (skS X n (p + 1)) (f1.f2.tr (fun o' j i h1 h2 => b3 _ _ _ (by omega))) b1 (by decide) (by decide) (by rw [b2, a5]) ?_ ?_ (fun p' A' => Or.inr (Or.inr (Or.inr (Or.inr (Or.inl ⟨hX, Or.inr ⟨hK, Or.inl ⟨hb, rfl, rfl⟩⟩⟩)))))
      · rw [b3 _ _ _ (by omega), a4]
        omega
      · rw [b3 _ _ _ (by omega), a4]
        have := nR.2.2.1 (by omega)
        omega
  · obtain ⟨f1, a3, a2, a40, a41⟩ := b
    have kp := nuK_p hK
    refine ⟨zR3 a3 (by omega) kp.2, fun _ => ?_, fun z => absurd (a3.symm.trans z) hK⟩
    unfold b_X4_readQuiet_30
    refine ⟨zR3 a3 (by omega) kp.2, fun _ => ?_, fun z => absurd (a3.symm.trans z) hK⟩
    exact bd T1 _ _ f1.f2 a3 kp.1 kp.2 a2 a40 a41 (fun p' A' => Or.inr (Or.inr (Or.inr (Or.inr (Or.inl ⟨hX, Or.inl ⟨hK, rfl, rfl⟩⟩)))))
theorem sp_bFact {T : TH} {X : Int → Int} {n p : Int} {o : Nat} {A : LA} (ho : o = 2 ∨ o = 3) (hT : TxC T X n) (hC : LdC T o A) (hA : LAk A) (hm : A 1 0 < 8) (hX : X p = 102) (hp : T 1 4 0 = p + 1) (p0 : 0 ≤ p) (p1 : p < n) (hk : T 1 3 0 = 0) {Q : TH → Prop} (gd : GdQ X n o A p T Q) (bd : BdQ X n o A p T Q) : wp_X4_readFact o T Q := by
  have hn := hT.2.1
  have n0 := hA.1.1
  have nR := nu_R X hn.2 (p := p + 1) (by omega)
  have e1 := nR.2.2.1 (by omega)
  have nR2 := nu_R X hn.2 (p := nuE X n (p + 1)) (by omega)
  have e2 := nR2.2.2.1 e1
  have nR3 := nu_R X hn.2 (p := nuE X n (nuE X n (p + 1))) (by omega)
  have e3 := nR3.2.2.1 e2
  have fin : ∀ (T3 : TH) (k pl v1 v2 v3 : Int), B1 T T3 k pl → 0 < k → k ≤ 4 → (∀ p' A', BoP X n A p k pl p' A') → (zR (T3 1 3 0) ∧ (¬ (T3 1 3 0) = 0 → (Q T3)) ∧ ((T3 1 3 0) = 0 → (wp_X3_addFact o v1 v2 v3 T3 (fun T7 => Q T7)))) := by
    intro T3 k pl v1 v2 v3 b k0 k1 hB
    obtain ⟨f1, a3, a2, a40, a41⟩ := b
    exact ⟨zR3 a3 (by omega) k1, fun _ => bd T3 k pl f1.f2 a3 k0 k1 a2 a40 a41 hB, fun z => absurd (a3.symm.trans z) (by omega)⟩
  have vain : ∀ (T2 : TH) (k pl lo hi : Int) (K : Int → TH → Prop), zR lo → zR hi → B1 T T2 k pl → 0 < k → k ≤ 4 → (∀ T3 v, B1 T T3 k pl → K v T3) → wp_X4_readNumber lo hi T2 K := by
    intro T2 k pl lo hi K zl zh b k0 k1 hK
    obtain ⟨f1, a3, a2, a40, a41⟩ := b
    refine sp_num_b (hT.fr f1) a40 a41 zl zh a3 k0 k1 (fun T3 v b3 => hK T3 v ?_)
    obtain ⟨g1, g3, g2, g40, g41⟩ := b3
    exact ⟨f1.tr g1, g3, by rw [g2, a2], g40, g41⟩
  unfold wp_X4_readFact wp_X4_readPerson
  rw [hC.1]
  refine sp_num_g hT hp (by omega) (by omega) (by unfold zR; omega) (by unfold zR; omega) hk (fun hK T1 g => ?_) (fun hK T1 v b => ?_)
  · obtain ⟨f1, a3, a2, a4, a5⟩ := g
    have ok := nu_ok hK
    refine sp_num_g (hT.fr f1) a4 (by omega) (by omega) (by unfold zR; omega) (by unfold zR; omega) a3 (fun hK2 T2 g => ?_) (fun hK2 T2 v b => ?_)
    · obtain ⟨f2, c3, c2, c4, c5⟩ := g
      have ok2 := nu_ok hK2
      refine sp_num_g ((hT.fr f1).fr f2) c4 (by omega) (by omega) (by unfold zR; omega) (by unfold zR; omega) c3 (fun hK3 T3 g => ?_) (fun hK3 T3 v b => ?_)
      · obtain ⟨f3, d3, d2, d4, d5⟩ := g
        have ok3 := nu_ok hK3
        have F := (f1.tr f2).tr f3
        refine ⟨zR3 d3 (by decide) (by decide), fun z => absurd d3 z, fun _ => ?_⟩
        refine sp_addFact (hC.f1 ho F) hA hm ok.2.1 (by omega) ok3.2.1 ok3.2.2.1 (fun T4 l4 f4 => ?_)
        refine gd T4 _ _ (F.f2.tr (fun o' j i h1 h2 => f4 _ _ _ h2)) ?_ ?_ ?_ ?_ ?_ l4 (LAk_f hA hm ok.2.1 (by omega) ok2.2.1 ok2.2.2.1 ok3.2.1 ok3.2.2.1) (fun k pl p' A' hE => Or.inr (Or.inl ⟨hX, Or.inr ⟨hK, Or.inr ⟨hK2, Or.inr ⟨hK3, hE⟩⟩⟩⟩))
        · rw [f4 _ _ _ (by omega), d3]
        · rw [f4 _ _ _ (by omega), d2, c2, a2]
        · rw [f4 _ _ _ (by omega), d4]
        · omega
        · omega
      · have kp := nuK_p hK3
        obtain ⟨g1, g3, g2, g40, g41⟩ := b
        exact fin T3 _ _ _ _ _ ⟨(f1.tr f2).tr g1, g3, g2, g40, g41⟩ kp.1 kp.2 (fun p' A' => Or.inr (Or.inl ⟨hX, Or.inr ⟨hK, Or.inr ⟨hK2, Or.inl ⟨hK3, rfl, rfl⟩⟩⟩⟩))
    · have kp := nuK_p hK2
      obtain ⟨g1, g3, g2, g40, g41⟩ := b
      refine vain T2 _ _ _ _ _ (by unfold zR; omega) (by unfold zR; omega) ⟨f1.tr g1, g3, g2, g40, g41⟩ kp.1 kp.2 (fun T3 v b => ?_)
      exact fin T3 _ _ _ _ _ b kp.1 kp.2 (fun p' A' => Or.inr (Or.inl ⟨hX, Or.inr ⟨hK, Or.inl ⟨hK2, rfl, rfl⟩⟩⟩))
  · have kp := nuK_p hK
    refine vain T1 _ _ _ _ _ (by unfold zR; omega) (by unfold zR; omega) b kp.1 kp.2 (fun T2 v b => ?_)
    refine vain T2 _ _ _ _ _ (by unfold zR; omega) (by unfold zR; omega) b kp.1 kp.2 (fun T3 v b => ?_)
    exact fin T3 _ _ _ _ _ b kp.1 kp.2 (fun p' A' => Or.inr (Or.inl ⟨hX, Or.inl ⟨hK, rfl, rfl⟩⟩))
theorem sp_bKnown {T : TH} {X : Int → Int} {n p : Int} {o : Nat} {A : LA} (ho : o = 2 ∨ o = 3) (hT : TxC T X n) (hC : LdC T o A) (hA : LAk A) (hX : X p = 107) (hp : T 1 4 0 = p + 1) (p0 : 0 ≤ p) (p1 : p < n) (hk : T 1 3 0 = 0) {Q : TH → Prop} (gd : GdQ X n o A p T Q) (bd : BdQ X n o A p T Q) : wp_X4_readKnowers o T Q := by
  have hn := hT.2.1
  have n0 := hA.1.1
  have n1 := hA.1.2.1
  have nR := nu_R X hn.2 (p := p + 1) (by omega)
  have e1 := nR.2.2.1 (by omega)
  have nR2 := nu_R X hn.2 (p := nuE X n (p + 1)) (by omega)
  have e2 := nR2.2.2.1 e1
  have ev : zR ((2 : Int) ^ (A 0 0).toNat - 1) := ms7_R (by omega)
  have fin : ∀ (T1 : TH) (k pl v : Int), B1 T T1 k pl → 0 < k → k ≤ 4 → (∀ p' A', BoP X n A p k pl p' A') → b_X4_readKnowers_39 o Q v T1 := by
    intro T1 k pl v b k0 k1 hB
    obtain ⟨f1, a3, a2, a40, a41⟩ := b
    unfold b_X4_readKnowers_39 wp_X3_everybody
    rw [(hC.f1 ho f1).1, evy_eq hA.1]
    refine sp_num_b (hT.fr f1) a40 a41 z0 ev a3 k0 k1 (fun T3 v b3 => ?_)
    obtain ⟨g1, g3, g2, g40, g41⟩ := b3
    exact ⟨zR3 g3 (by omega) k1, fun _ => bd T3 k pl (f1.tr g1).f2 g3 k0 k1 (by rw [g2, a2]) g40 g41 hB, fun z => absurd (g3.symm.trans z) (by omega)⟩
  unfold wp_X4_readKnowers
  rw [hC.2.1]
  refine sp_num_g hT hp (by omega) (by omega) (by unfold zR; omega) (by unfold zR; omega) hk (fun hK T1 g => ?_) (fun hK T1 v b => ?_)
  · obtain ⟨f1, a3, a2, a4, a5⟩ := g
    have ok := nu_ok hK
    have C1 := hC.f1 ho f1
    obtain ⟨c1, c2⟩ := C1.2.2.2.2.2.2.2.2.2.2.2.2.1
    have cb := c2 (nuV X n (p + 1)) ok.2.1 (by omega)
    refine ⟨zR3 a3 (by decide) (by decide), fun z => absurd a3 z, fun _ => ?_⟩
    refine bit_ne (ms_up c1 (by decide)) ok.2.1 (by omega) (fun hb => ?_) (fun hb => ?_)
    · have na : ¬ (A 12 (nuV X n (p + 1)) ≠ -1) := fun z => by
        rw [decide_eq_true ⟨by omega, z⟩, hb] at cb
        exact absurd cb (by decide)
      unfold b_X4_readKnowers_39 wp_X3_everybody
      rw [C1.1, evy_eq hA.1]
      refine sp_num_g (hT.fr f1) a4 (by omega) (by omega) z0 ev a3 (fun hK2 T2 g => ?_) (fun hK2 T2 v b => ?_)
      · obtain ⟨f2, d3, d2, d4, d5⟩ := g
        have ok2 := nu_ok hK2
        have C2 := C1.f1 ho f2
        refine ⟨zR3 d3 (by decide) (by decide), fun z => absurd d3 z, fun _ => ?_⟩
        intro T5 h5
        refine ⟨ok.2.1, by omega, ?_⟩
        intro T6 h6
        rw [h5] at h6
        subst h6
        refine gd _ (nuE X n (nuE X n (p + 1))) (setA A 12 (nuV X n (p + 1)) (nuV X n (nuE X n (p + 1)))) ((f1.tr f2).f2.tr (fun o' j i h1 h2 => by rw [up_ne (by omega), up_ne (by omega)])) ?_ ?_ ?_ (by omega) (by omega) (LdC_k ok.2.1 (by omega) n1.2 ok2.2.1 C2) (LAk_k hA ⟨ok2.2.1, by omega⟩) (fun k pl p' A' hE => Or.inr (Or.inr (Or.inl ⟨hX, Or.inr ⟨hK, Or.inr ⟨na, Or.inr ⟨hK2, hE⟩⟩⟩⟩)))
        · rw [up_ne (by omega), up_ne (by omega), d3]
        · rw [up_ne (by omega), up_ne (by omega), d2, a2]
        · rw [up_ne (by omega), up_ne (by omega), d4]
      · obtain ⟨g1, g3, g2, g40, g41⟩ := b
        have kp := nuK_p hK2
        exact ⟨zR3 g3 (by omega) kp.2, fun _ => bd T2 _ _ (f1.tr g1).f2 g3 kp.1 kp.2 g2 g40 g41 (fun p' A' => Or.inr (Or.inr (Or.inl ⟨hX, Or.inr ⟨hK, Or.inr ⟨na, Or.inl ⟨hK2, rfl, rfl⟩⟩⟩⟩))), fun z => absurd (g3.symm.trans z) (by omega)⟩
    · have ya : A 12 (nuV X n (p + 1)) ≠ -1 := by
        rw [hb] at cb
        exact (of_decide_eq_true cb.symm).2
      refine sp_blame (zR3 a3 (by decide) (by decide)) (fun z => absurd a3 z) (fun _ T2 b1 b2 b3 => ?_)
      refine fin T2 4 (skS X n (p + 1)) _ ⟨f1.tr (fun o' j i h1 => b3 _ _ _ (by omega)), b1, by rw [b2, a5], ?_, ?_⟩ (by decide) (by decide) (fun p' A' => Or.inr (Or.inr (Or.inl ⟨hX, Or.inr ⟨hK, Or.inl ⟨ya, rfl, rfl⟩⟩⟩)))
      · rw [b3 _ _ _ (by omega), a4]
        omega
      · rw [b3 _ _ _ (by omega), a4]
        omega
  · have kp := nuK_p hK
    have a3 := b.2.1
    refine ⟨zR3 a3 (by omega) kp.2, fun _ => ?_, fun z => absurd (a3.symm.trans z) hK⟩
    exact fin T1 _ _ _ b kp.1 kp.2 (fun p' A' => Or.inr (Or.inr (Or.inl ⟨hX, Or.inl ⟨hK, rfl, rfl⟩⟩)))
theorem sp_bPair {T : TH} {X : Int → Int} {n p : Int} {o : Nat} {A : LA} (ho : o = 2 ∨ o = 3) (hT : TxC T X n) (hC : LdC T o A) (hA : LAk A) (hm : A 2 0 < 12) (hX : X p = 119) (hp : T 1 4 0 = p + 1) (p0 : 0 ≤ p) (p1 : p < n) (hk : T 1 3 0 = 0) {Q : TH → Prop} (gd : GdQ X n o A p T Q) (bd : BdQ X n o A p T Q) : wp_X4_readFriendship o T Q := by
  have hn := hT.2.1
  have n0 := hA.1.1
  have nR := nu_R X hn.2 (p := p + 1) (by omega)
  have e1 := nR.2.2.1 (by omega)
  have nR2 := nu_R X hn.2 (p := nuE X n (p + 1)) (by omega)
  have e2 := nR2.2.2.1 e1
  have fin : ∀ (T1 : TH) (k pl v1 v2 : Int), B1 T T1 k pl → 0 < k → k ≤ 4 → (∀ p' A', BoP X n A p k pl p' A') → b_X4_readFriendship_46 o Q v1 v2 T1 := by
    intro T1 k pl v1 v2 b k0 k1 hB
    obtain ⟨f1, a3, a2, a40, a41⟩ := b
    unfold b_X4_readFriendship_46
    exact ⟨zR3 a3 (by omega) k1, fun _ => bd T1 k pl f1.f2 a3 k0 k1 a2 a40 a41 hB, fun z => absurd (a3.symm.trans z) (by omega)⟩
  unfold wp_X4_readFriendship wp_X4_readPerson
  rw [hC.1]
  refine sp_num_g hT hp (by omega) (by omega) (by unfold zR; omega) (by unfold zR; omega) hk (fun hK T1 g => ?_) (fun hK T1 v b => ?_)
  · obtain ⟨f1, a3, a2, a4, a5⟩ := g
    have ok := nu_ok hK
    have C1 := hC.f1 ho f1
    rw [C1.1]
    refine sp_num_g (hT.fr f1) a4 (by omega) (by omega) (by unfold zR; omega) (by unfold zR; omega) a3 (fun hK2 T2 g => ?_) (fun hK2 T2 v b => ?_)
    · obtain ⟨f2, d3, d2, d4, d5⟩ := g
      have ok2 := nu_ok hK2
      have C2 := C1.f1 ho f2
      have again : (nuV X n (p + 1) = nuV X n (nuE X n (p + 1)) ∨ frB A (nuV X n (p + 1)) (nuV X n (nuE X n (p + 1))) = true) → b_X4_readFriendship_37 o Q (nuV X n (p + 1)) (nuV X n (nuE X n (p + 1))) T2 := by
        intro ya
        unfold b_X4_readFriendship_37
        refine sp_blame (zR3 d3 (by decide) (by decide)) (fun z => absurd d3 z) (fun _ T3 b1 b2 b3 => ?_)
        refine fin T3 4 (skS X n (nuE X n (p + 1))) _ _ ⟨(f1.tr f2).tr (fun o' j i h1 => b3 _ _ _ (by omega)), b1, by rw [b2, d5], ?_, ?_⟩ (by decide) (by decide) (fun p' A' => Or.inr (Or.inr (Or.inr (Or.inl ⟨hX, Or.inr ⟨hK, Or.inr ⟨hK2, Or.inl ⟨ya, rfl, rfl⟩⟩⟩⟩))))
        · rw [b3 _ _ _ (by omega), d4]
          omega
        · rw [b3 _ _ _ (by omega), d4]
          omega
      refine ⟨zR3 d3 (by decide) (by decide), fun z => absurd d3 z, fun _ => ⟨by unfold zR; omega, by unfold zR; omega, fun z => again (Or.inl z), fun z => ⟨ok.2.1, by omega, ?_⟩⟩⟩
      obtain ⟨c1, c2⟩ := C2.2.2.2.2.2.2.2.2.2.1 (nuV X n (p + 1)) ok.2.1 (by omega)
      have cb := c2 (nuV X n (nuE X n (p + 1))) ok2.2.1 (by omega)
      refine bit_ne (ms_up c1 (by decide)) ok2.2.1 (by omega) (fun hb => ?_) (fun hb => again (Or.inr (by rw [← cb, hb])))
      unfold b_X4_readFriendship_46
      refine ⟨zR3 d3 (by decide) (by decide), fun z => absurd d3 z, fun _ => ?_⟩
      refine sp_addFr C2 hA hm ok.2.1 (by omega) ok2.2.1 (by omega) z (fun T4 l4 f4 => ?_)
      refine gd T4 _ _ ((f1.tr f2).f2.tr (fun o' j i h1 h2 => f4 _ _ _ h2)) ?_ ?_ ?_ ?_ ?_ l4 (LAk_w hA hm ok.2.1 (by omega) ok2.2.1 (by omega) z) (fun k pl p' A' hE => Or.inr (Or.inr (Or.inr (Or.inl ⟨hX, Or.inr ⟨hK, Or.inr ⟨hK2, Or.inr ⟨fun w => ?_, hE⟩⟩⟩⟩))))
      · rw [f4 _ _ _ (by omega), d3]
      · rw [f4 _ _ _ (by omega), d2, a2]
      · rw [f4 _ _ _ (by omega), d4]
      · omega
      · omega
      · rcases w with w | w
        · exact z w
        · rw [← cb, hb] at w
          exact absurd w (by decide)
    · have kp := nuK_p hK2
      obtain ⟨g1, g3, g2, g40, g41⟩ := b
      refine ⟨zR3 g3 (by omega) kp.2, fun _ => ?_, fun z => absurd (g3.symm.trans z) hK2⟩
      exact fin T2 _ _ _ _ ⟨f1.tr g1, g3, g2, g40, g41⟩ kp.1 kp.2 (fun p' A' => Or.inr (Or.inr (Or.inr (Or.inl ⟨hX, Or.inr ⟨hK, Or.inl ⟨hK2, rfl, rfl⟩⟩⟩))))
  · have kp := nuK_p hK
    obtain ⟨f1, a3, a2, a40, a41⟩ := b
    show wp_X4_readNumber 0 (T1 o 0 0 - 1) T1 _
    rw [(hC.f1 ho f1).1]
    refine sp_num_b (hT.fr f1) a40 a41 z0 (by unfold zR; omega) a3 kp.1 kp.2 (fun T3 v b3 => ?_)
    obtain ⟨g1, g3, g2, g40, g41⟩ := b3
    refine ⟨zR3 g3 (by omega) kp.2, fun _ => ?_, fun z => absurd (g3.symm.trans z) hK⟩
    exact fin T3 _ _ _ _ ⟨f1.tr g1, g3, by rw [g2, a2], g40, g41⟩ kp.1 kp.2 (fun p' A' => Or.inr (Or.inr (Or.inr (Or.inl ⟨hX, Or.inl ⟨hK, rfl, rfl⟩⟩))))
