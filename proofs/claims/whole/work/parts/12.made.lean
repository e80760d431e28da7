def fldG (G : GT) (T : TH) (o : Nat) : Nat → List Nat → List Value
  | _, [] => []
  | j, k :: ks => fldV G T o j k :: fldG G T o (j + 1) ks
theorem fldG_get (G : GT) (T : TH) (o : Nat) : ∀ (ks : List Nat) (n i : Nat), (fldG G T o n ks)[i]? = ks[i]?.map (fun k => fldV G T o (n + i) k)
  | [], n, i => by simp [fldG]
  | k :: ks, n, 0 => by simp [fldG]
  | k :: ks, n, i + 1 => by
    rw [fldG, List.getElem?_cons_succ, List.getElem?_cons_succ, fldG_get G T o ks (n + 1) i, show n + 1 + i = n + (i + 1) by omega]
theorem flds_G (G : GT) (T : TH) (o : Nat) : flds G T o = fldG G T o 0 (kdT (clsO o)) := by
  apply List.ext_getElem?
  intro i
  unfold flds
  rw [List.getElem?_mapIdx, fldG_get, Nat.zero_add]
theorem cel_obj (G : GT) (T : TH) (o : Nat) : cel G T (o, 0) = (gad G o, .inr (clsO o, fldG G T o 0 (kdT (clsO o)))) := by
  show (gad G o, Sum.inr (clsO o, flds G T o)) = _
  rw [flds_G]
theorem kdT_16 (c : Nat) : ∀ k ∈ kdT c, k ≠ 16 := by
  rcases Nat.lt_or_ge c 10 with h | h
  · have := (by decide : ∀ c, c < 10 → ∀ k ∈ kdT c, k ≠ 16) c h
    exact this
  · have e : kdT c = [] := by
      unfold kdT
      rw [List.getD_eq_getElem?_getD, List.getElem?_eq_none (by simpa using h)]
      rfl
    rw [e]
    intro k hk
    cases hk
theorem cel_13 {G0 G1 : GT} {T : TH} (ha : ∀ o, o ≠ 13 → gad G1 o = gad G0 o) (hb : ∀ o j, o ≠ 13 → gaa G1 o j = gaa G0 o j) (hc : gcA G1 = gcA G0) (hT : ∀ o j, (T o j 0).toNat ≠ 13) {q : Nat × Nat} (hq : q.1 ≠ 13) : cel G0 T q = cel G1 T q := by
  obtain ⟨o, x⟩ := q
  have hq : o ≠ 13 := hq
  cases x with
  | zero =>
    rw [cel_obj, cel_obj, ha o hq]
    have e : ∀ (ks : List Nat) (n : Nat), (∀ k ∈ ks, k ≠ 16) → fldG G0 T o n ks = fldG G1 T o n ks := by
      intro ks
      induction ks with
      | nil => intro n _; rfl
      | cons k ks ih =>
        intro n hk
        rw [fldG, fldG, ih (n + 1) (fun x hx => hk x (List.mem_cons_of_mem _ hx))]
        have h1 := hk k List.mem_cons_self
        congr 1
        match k, h1 with
        | 0, _ => rfl
        | 1, _ => simp only [fldV, hb o n hq]
        | 2, _ => simp only [fldV, ha _ (hT o n)]
        | m + 3, h1 => simp only [fldV, ha m (by omega)]
    rw [e _ 0 (kdT_16 _)]
  | succ j =>
    show (gaa G0 o j, arC G0 T o j _) = (gaa G1 o j, arC G1 T o j _)
    rw [hb o j hq]
    congr 1
    generalize (arT (clsO o) j).getD (0, 0) = r
    obtain ⟨t, n⟩ := r
    match t with
    | 0 => simp only [arC, hc]
    | 1 => simp only [arC, hc]
    | 2 => simp only [arC, hc]
    | t + 3 => simp only [arC, hc, ha 6 (by decide), ha 7 (by decide)]
theorem beq13 {o : Nat} (h : o ≠ 13) : Nat.beq o 13 = false := by
  cases e : Nat.beq o 13 with
  | false => rfl
  | true => exact absurd (Nat.eq_of_beq_eq_true e) h

def wsTK : List (Nat × Nat) := [(0, 0), (0, 6), (1, 0), (1, 1), (2, 0), (2, 9), (2, 10), (2, 11), (2, 12), (2, 13), (2, 14), (2, 15), (2, 16), (3, 0), (3, 9), (3, 10), (3, 11), (3, 12), (3, 13), (3, 14), (3, 15), (3, 16), (4, 0), (4, 3), (4, 4), (4, 5), (5, 0), (5, 3), (5, 4), (5, 5), (6, 0), (6, 3), (6, 4), (6, 5), (7, 0), (7, 3), (7, 4), (7, 5), (8, 0), (8, 2), (8, 3), (9, 0), (9, 1), (9, 2), (10, 0), (10, 1), (11, 0), (11, 1), (12, 0), (12, 1), (12, 2)]
def wsTM : List (Nat × Nat) := [(13, 0), (13, 2), (13, 11), (13, 13), (13, 16), (13, 20), (13, 22), (13, 25), (13, 27), (13, 28), (13, 29), (13, 30), (13, 31), (13, 33), (13, 34), (13, 35), (13, 36), (13, 37), (13, 38)]
set_option maxRecDepth 100000 in
theorem wsT_KM : wsT = wsTK ++ wsTM := by decide +kernel
/-- the state at the first call of begin -/
def T0 : TH := fun o j _ => bif Nat.beq o 13 && Nat.beq j 6 then -1 else bif Nat.beq o 1 && Nat.beq j 2 then -1 else bif Nat.beq o 0 && Nat.beq j 1 then 2 else bif Nat.beq o 0 && Nat.beq j 2 then 3 else 0
theorem wsTK_13 : ∀ q ∈ wsTK, q.1 ≠ 13 := by decide
theorem T0_13 : ∀ o j, (T0 o j 0).toNat ≠ 13 := by
  intro o j
  unfold T0
  cases Nat.beq o 13 && Nat.beq j 6 <;> cases Nat.beq o 1 && Nat.beq j 2 <;> cases Nat.beq o 0 && Nat.beq j 1 <;> cases Nat.beq o 0 && Nat.beq j 2 <;> decide
def nestL : List Cond := [.methodLinkNest RX8 11 yX4_init RX8, .methodLinkNest RX8 18 yX3_init RX8, .methodLinkNest RX8 28 yX2_init RX8, .methodLinkNest RX8 42 yX6_init RX8, .methodLinkNest RX8 49 yX1_init RX8, .methodLinkNest RX8 56 yX7_init RX8, .methodLinkNest RX8 63 yX0_init RX8, .methodLinkNest RX8 70 yX5_init RX8]
def ExK (U : State) : Prop := (∀ w ∈ nestL, va_Nw w U) ∧ va_AO "KnownWeight$Heads" U
def gOf (D : va_G) (cA : Nat → ClassId) (A : Nat → Prop) (ad : Nat → Nat) (aa : Nat → Nat → Nat) : GT := (D.1, D.2, ad, aa, cA, A)
abbrev bl9 (h0 : Nat) : Nat × va_E := (h0, .inr (9, [.int (zI 0), .null, .int (zI 0), .int (zI 0), .int (zI 0), .int (zI 0), .int (zI 0), .int (zI 0), .int (zI 0), .int (zI 0), .null, .int (zI 0), .null, .int (zI 0), .int (zI 0), .null, .int (zI 0), .int (zI 0), .int (zI 0), .null, .int (zI 0), .null, .int (zI 0), .int (zI 0), .null, .int (zI 0), .null, .null, .null, .null, .null, .int (zI 0), .null, .null, .null, .null, .null, .null]))
abbrev eM9 (h0 q1 q2 q3 q4 q5 q6 q7 q8 q9 q10 q11 q12 q13 q14 q15 q16 q17 q18 : Nat) : Nat × va_E := (h0, .inr (9, [.int (zI 0), .ref q1, .int (zI 0), .int (zI 0), .int (zI 0), .int (zI 0), .int (zI (-1)), .int (zI 0), .int (zI 0), .int (zI 0), .ref q2, .int (zI 0), .ref q3, .int (zI 0), .int (zI 0), .ref q4, .int (zI 0), .int (zI 0), .int (zI 0), .ref q5, .int (zI 0), .ref q6, .int (zI 0), .int (zI 0), .ref q7, .int (zI 0), .ref q8, .ref q9, .ref q10, .ref q11, .ref q12, .int (zI 0), .ref q13, .ref q14, .ref q15, .ref q16, .ref q17, .ref q18]))
abbrev lM9 (cA : Nat → ClassId) (q1 q2 q3 q4 q5 q6 q7 q8 q9 q10 q11 q12 q13 q14 q15 q16 q17 q18 : Nat) : va_W := [(q1, .inl (cA 0, 250, .inl (fun _ => zI 0))), (q2, .inl (cA 0, 32, .inl (fun _ => zI 0))), (q3, .inl (cA 0, 24, .inl (fun _ => zI 0))), (q4, .inl (cA 0, 4, .inl (fun _ => zI 0))), (q5, .inl (cA 0, 32, .inl (fun _ => zI 0))), (q6, .inl (cA 0, 24, .inl (fun _ => zI 0))), (q7, .inl (cA 0, 4, .inl (fun _ => zI 0))), (q8, .inl (cA 0, 58, .inl (fun _ => zI 0))), (q9, .inl (cA 0, 58, .inl (fun _ => zI 0))), (q10, .inl (cA 0, 58, .inl (fun _ => zI 0))), (q11, .inl (cA 0, 116, .inl (fun _ => zI 0))), (q12, .inl (cA 2, 2, .inl (fun _ => zI 0))), (q13, .inl (cA 0, 30, .inl (fun _ => zI 0))), (q14, .inl (cA 0, 8, .inl (fun _ => zI 0))), (q15, .inl (cA 0, 128, .inl (fun _ => zI 0))), (q16, .inl (cA 1, 1200, .inr (.inl (fun _ => zJ 0)))), (q17, .inl (cA 1, 1200, .inr (.inl (fun _ => zJ 0)))), (q18, .inl (cA 0, 7, .inl (fun _ => zI 0)))]
set_option maxRecDepth 100000 in
set_option maxHeartbeats 4000000 in
theorem m_world (D : va_G) (cA : Nat → ClassId) (A : Nat → Prop) (ad : Nat → Nat) (aa : Nat → Nat → Nat) (h0 q1 q2 q3 q4 q5 q6 q7 q8 q9 q10 q11 q12 q13 q14 q15 q16 q17 q18 : Nat) : (wsTK.map (cel (gOf D cA A ad aa) T0) ++ [bl9 h0]).set 51 (eM9 h0 q1 q2 q3 q4 q5 q6 q7 q8 q9 q10 q11 q12 q13 q14 q15 q16 q17 q18) ++ lM9 cA q1 q2 q3 q4 q5 q6 q7 q8 q9 q10 q11 q12 q13 q14 q15 q16 q17 q18 = wsG (gOf D cA A (fun o => bif Nat.beq o 13 then h0 else ad o) (fun o j => bif Nat.beq o 13 then ([0, q1, 0, 0, 0, 0, 0, 0, 0, 0, q2, 0, q3, 0, 0, q4, 0, 0, 0, q5, 0, q6, 0, 0, q7, 0, q8, q9, q10, q11, q12, 0, q13, q14, q15, q16, q17, q18] : List Nat).getD j 0 else aa o j)) T0 := by
  unfold wsG
  rw [wsT_KM, List.map_append]
  have e1 : wsTK.map (cel (gOf D cA A ad aa) T0) = wsTK.map (cel (gOf D cA A (fun o => bif Nat.beq o 13 then h0 else ad o) (fun o j => bif Nat.beq o 13 then ([0, q1, 0, 0, 0, 0, 0, 0, 0, 0, q2, 0, q3, 0, 0, q4, 0, 0, 0, q5, 0, q6, 0, 0, q7, 0, q8, q9, q10, q11, q12, 0, q13, q14, q15, q16, q17, q18] : List Nat).getD j 0 else aa o j)) T0) := by
    refine List.map_congr_left (fun q hq => cel_13 (G0 := gOf D cA A ad aa) (G1 := (gOf D cA A (fun o => bif Nat.beq o 13 then h0 else ad o) (fun o j => bif Nat.beq o 13 then ([0, q1, 0, 0, 0, 0, 0, 0, 0, 0, q2, 0, q3, 0, 0, q4, 0, 0, 0, q5, 0, q6, 0, 0, q7, 0, q8, q9, q10, q11, q12, 0, q13, q14, q15, q16, q17, q18] : List Nat).getD j 0 else aa o j))) (fun o ho => ?_) (fun o j ho => ?_) rfl T0_13 (wsTK_13 q hq))
    · show (bif Nat.beq o 13 then h0 else ad o) = ad o
      rw [show Nat.beq o 13 = false from beq13 ho]
      rfl
    · show (bif Nat.beq o 13 then _ else aa o j) = aa o j
      rw [show Nat.beq o 13 = false from beq13 ho]
      rfl
  rw [← e1, List.set_append_right _ _ (Nat.le_of_ble_eq_true rfl), List.append_assoc]
  have e2 : wsTM.map (cel (gOf D cA A (fun o => bif Nat.beq o 13 then h0 else ad o) (fun o j => bif Nat.beq o 13 then ([0, q1, 0, 0, 0, 0, 0, 0, 0, 0, q2, 0, q3, 0, 0, q4, 0, 0, 0, q5, 0, q6, 0, 0, q7, 0, q8, q9, q10, q11, q12, 0, q13, q14, q15, q16, q17, q18] : List Nat).getD j 0 else aa o j)) T0) = eM9 h0 q1 q2 q3 q4 q5 q6 q7 q8 q9 q10 q11 q12 q13 q14 q15 q16 q17 q18 :: lM9 cA q1 q2 q3 q4 q5 q6 q7 q8 q9 q10 q11 q12 q13 q14 q15 q16 q17 q18 := by
    simp only [wsTM, List.map]
    rw [show cel (gOf D cA A (fun o => bif Nat.beq o 13 then h0 else ad o) (fun o j => bif Nat.beq o 13 then ([0, q1, 0, 0, 0, 0, 0, 0, 0, 0, q2, 0, q3, 0, 0, q4, 0, 0, 0, q5, 0, q6, 0, 0, q7, 0, q8, q9, q10, q11, q12, 0, q13, q14, q15, q16, q17, q18] : List Nat).getD j 0 else aa o j)) T0 (13, 0) = eM9 h0 q1 q2 q3 q4 q5 q6 q7 q8 q9 q10 q11 q12 q13 q14 q15 q16 q17 q18 from (cel_obj _ _ _).trans rfl, show cel (gOf D cA A (fun o => bif Nat.beq o 13 then h0 else ad o) (fun o j => bif Nat.beq o 13 then ([0, q1, 0, 0, 0, 0, 0, 0, 0, 0, q2, 0, q3, 0, 0, q4, 0, 0, 0, q5, 0, q6, 0, 0, q7, 0, q8, q9, q10, q11, q12, 0, q13, q14, q15, q16, q17, q18] : List Nat).getD j 0 else aa o j)) T0 (13, 2) = (q1, .inl (cA 0, 250, .inl (fun _ => zI 0))) from rfl, show cel (gOf D cA A (fun o => bif Nat.beq o 13 then h0 else ad o) (fun o j => bif Nat.beq o 13 then ([0, q1, 0, 0, 0, 0, 0, 0, 0, 0, q2, 0, q3, 0, 0, q4, 0, 0, 0, q5, 0, q6, 0, 0, q7, 0, q8, q9, q10, q11, q12, 0, q13, q14, q15, q16, q17, q18] : List Nat).getD j 0 else aa o j)) T0 (13, 11) = (q2, .inl (cA 0, 32, .inl (fun _ => zI 0))) from rfl, show cel (gOf D cA A (fun o => bif Nat.beq o 13 then h0 else ad o) (fun o j => bif Nat.beq o 13 then ([0, q1, 0, 0, 0, 0, 0, 0, 0, 0, q2, 0, q3, 0, 0, q4, 0, 0, 0, q5, 0, q6, 0, 0, q7, 0, q8, q9, q10, q11, q12, 0, q13, q14, q15, q16, q17, q18] : List Nat).getD j 0 else aa o j)) T0 (13, 13) = (q3, .inl (cA 0, 24, .inl (fun _ => zI 0))) from rfl, show cel (gOf D cA A (fun o => bif Nat.beq o 13 then h0 else ad o) (fun o j => bif Nat.beq o 13 then ([0, q1, 0, 0, 0, 0, 0, 0, 0, 0, q2, 0, q3, 0, 0, q4, 0, 0, 0, q5, 0, q6, 0, 0, q7, 0, q8, q9, q10, q11, q12, 0, q13, q14, q15, q16, q17, q18] : List Nat).getD j 0 else aa o j)) T0 (13, 16) = (q4, .inl (cA 0, 4, .inl (fun _ => zI 0))) from rfl, show cel (gOf D cA A (fun o => bif Nat.beq o 13 then h0 else ad o) (fun o j => bif Nat.beq o 13 then ([0, q1, 0, 0, 0, 0, 0, 0, 0, 0, q2, 0, q3, 0, 0, q4, 0, 0, 0, q5, 0, q6, 0, 0, q7, 0, q8, q9, q10, q11, q12, 0, q13, q14, q15, q16, q17, q18] : List Nat).getD j 0 else aa o j)) T0 (13, 20) = (q5, .inl (cA 0, 32, .inl (fun _ => zI 0))) from rfl, show cel (gOf D cA A (fun o => bif Nat.beq o 13 then h0 else ad o) (fun o j => bif Nat.beq o 13 then ([0, q1, 0, 0, 0, 0, 0, 0, 0, 0, q2, 0, q3, 0, 0, q4, 0, 0, 0, q5, 0, q6, 0, 0, q7, 0, q8, q9, q10, q11, q12, 0, q13, q14, q15, q16, q17, q18] : List Nat).getD j 0 else aa o j)) T0 (13, 22) = (q6, .inl (cA 0, 24, .inl (fun _ => zI 0))) from rfl, show cel (gOf D cA A (fun o => bif Nat.beq o 13 then h0 else ad o) (fun o j => bif Nat.beq o 13 then ([0, q1, 0, 0, 0, 0, 0, 0, 0, 0, q2, 0, q3, 0, 0, q4, 0, 0, 0, q5, 0, q6, 0, 0, q7, 0, q8, q9, q10, q11, q12, 0, q13, q14, q15, q16, q17, q18] : List Nat).getD j 0 else aa o j)) T0 (13, 25) = (q7, .inl (cA 0, 4, .inl (fun _ => zI 0))) from rfl, show cel (gOf D cA A (fun o => bif Nat.beq o 13 then h0 else ad o) (fun o j => bif Nat.beq o 13 then ([0, q1, 0, 0, 0, 0, 0, 0, 0, 0, q2, 0, q3, 0, 0, q4, 0, 0, 0, q5, 0, q6, 0, 0, q7, 0, q8, q9, q10, q11, q12, 0, q13, q14, q15, q16, q17, q18] : List Nat).getD j 0 else aa o j)) T0 (13, 27) = (q8, .inl (cA 0, 58, .inl (fun _ => zI 0))) from rfl, show cel (gOf D cA A (fun o => bif Nat.beq o 13 then h0 else ad o) (fun o j => bif Nat.beq o 13 then ([0, q1, 0, 0, 0, 0, 0, 0, 0, 0, q2, 0, q3, 0, 0, q4, 0, 0, 0, q5, 0, q6, 0, 0, q7, 0, q8, q9, q10, q11, q12, 0, q13, q14, q15, q16, q17, q18] : List Nat).getD j 0 else aa o j)) T0 (13, 28) = (q9, .inl (cA 0, 58, .inl (fun _ => zI 0))) from rfl, show cel (gOf D cA A (fun o => bif Nat.beq o 13 then h0 else ad o) (fun o j => bif Nat.beq o 13 then ([0, q1, 0, 0, 0, 0, 0, 0, 0, 0, q2, 0, q3, 0, 0, q4, 0, 0, 0, q5, 0, q6, 0, 0, q7, 0, q8, q9, q10, q11, q12, 0, q13, q14, q15, q16, q17, q18] : List Nat).getD j 0 else aa o j)) T0 (13, 29) = (q10, .inl (cA 0, 58, .inl (fun _ => zI 0))) from rfl, show cel (gOf D cA A (fun o => bif Nat.beq o 13 then h0 else ad o) (fun o j => bif Nat.beq o 13 then ([0, q1, 0, 0, 0, 0, 0, 0, 0, 0, q2, 0, q3, 0, 0, q4, 0, 0, 0, q5, 0, q6, 0, 0, q7, 0, q8, q9, q10, q11, q12, 0, q13, q14, q15, q16, q17, q18] : List Nat).getD j 0 else aa o j)) T0 (13, 30) = (q11, .inl (cA 0, 116, .inl (fun _ => zI 0))) from rfl, show cel (gOf D cA A (fun o => bif Nat.beq o 13 then h0 else ad o) (fun o j => bif Nat.beq o 13 then ([0, q1, 0, 0, 0, 0, 0, 0, 0, 0, q2, 0, q3, 0, 0, q4, 0, 0, 0, q5, 0, q6, 0, 0, q7, 0, q8, q9, q10, q11, q12, 0, q13, q14, q15, q16, q17, q18] : List Nat).getD j 0 else aa o j)) T0 (13, 31) = (q12, .inl (cA 2, 2, .inl (fun _ => zI 0))) from rfl, show cel (gOf D cA A (fun o => bif Nat.beq o 13 then h0 else ad o) (fun o j => bif Nat.beq o 13 then ([0, q1, 0, 0, 0, 0, 0, 0, 0, 0, q2, 0, q3, 0, 0, q4, 0, 0, 0, q5, 0, q6, 0, 0, q7, 0, q8, q9, q10, q11, q12, 0, q13, q14, q15, q16, q17, q18] : List Nat).getD j 0 else aa o j)) T0 (13, 33) = (q13, .inl (cA 0, 30, .inl (fun _ => zI 0))) from rfl, show cel (gOf D cA A (fun o => bif Nat.beq o 13 then h0 else ad o) (fun o j => bif Nat.beq o 13 then ([0, q1, 0, 0, 0, 0, 0, 0, 0, 0, q2, 0, q3, 0, 0, q4, 0, 0, 0, q5, 0, q6, 0, 0, q7, 0, q8, q9, q10, q11, q12, 0, q13, q14, q15, q16, q17, q18] : List Nat).getD j 0 else aa o j)) T0 (13, 34) = (q14, .inl (cA 0, 8, .inl (fun _ => zI 0))) from rfl, show cel (gOf D cA A (fun o => bif Nat.beq o 13 then h0 else ad o) (fun o j => bif Nat.beq o 13 then ([0, q1, 0, 0, 0, 0, 0, 0, 0, 0, q2, 0, q3, 0, 0, q4, 0, 0, 0, q5, 0, q6, 0, 0, q7, 0, q8, q9, q10, q11, q12, 0, q13, q14, q15, q16, q17, q18] : List Nat).getD j 0 else aa o j)) T0 (13, 35) = (q15, .inl (cA 0, 128, .inl (fun _ => zI 0))) from rfl, show cel (gOf D cA A (fun o => bif Nat.beq o 13 then h0 else ad o) (fun o j => bif Nat.beq o 13 then ([0, q1, 0, 0, 0, 0, 0, 0, 0, 0, q2, 0, q3, 0, 0, q4, 0, 0, 0, q5, 0, q6, 0, 0, q7, 0, q8, q9, q10, q11, q12, 0, q13, q14, q15, q16, q17, q18] : List Nat).getD j 0 else aa o j)) T0 (13, 36) = (q16, .inl (cA 1, 1200, .inr (.inl (fun _ => zJ 0)))) from rfl, show cel (gOf D cA A (fun o => bif Nat.beq o 13 then h0 else ad o) (fun o j => bif Nat.beq o 13 then ([0, q1, 0, 0, 0, 0, 0, 0, 0, 0, q2, 0, q3, 0, 0, q4, 0, 0, 0, q5, 0, q6, 0, 0, q7, 0, q8, q9, q10, q11, q12, 0, q13, q14, q15, q16, q17, q18] : List Nat).getD j 0 else aa o j)) T0 (13, 37) = (q17, .inl (cA 1, 1200, .inr (.inl (fun _ => zJ 0)))) from rfl, show cel (gOf D cA A (fun o => bif Nat.beq o 13 then h0 else ad o) (fun o j => bif Nat.beq o 13 then ([0, q1, 0, 0, 0, 0, 0, 0, 0, 0, q2, 0, q3, 0, 0, q4, 0, 0, 0, q5, 0, q6, 0, 0, q7, 0, q8, q9, q10, q11, q12, 0, q13, q14, q15, q16, q17, q18] : List Nat).getD j 0 else aa o j)) T0 (13, 38) = (q18, .inl (cA 0, 7, .inl (fun _ => zI 0))) from rfl]
  rw [e2]
  rfl
/-- over a growing world that has become the whole one -/
theorem u_ofV {D : va_G} {A : Nat → Prop} {cA : Nat → ClassId} {ad : Nat → Nat} {aa : Nat → Nat → Nat} {p : Program} {l : Launch} {e : Env} {R : Room} {s : State} {m : MethodId} {args : Array Value} {below : List Frame} {meth : Method} {c : Code} {nc ns nc0 ns0 : Nat} {Q : State → Prop} {T : TH} (hT : lOK T) {pc : Nat} {lv : List (Nat × Value)} {st : List Value} (k : V (gOf D cA A ad aa) (p, l, e, R, s, m, args, below, meth, c, nc, ns, Q) T pc lv st) : UC D A (p, l, e, R, s, m, args, below, meth, c, nc0, ns0, Q) (wsG (gOf D cA A ad aa) T) nc ns pc lv st := by
  intro H locs ls h2 h3 h4 h5
  exact k H locs ls hT h2 h3 h4 h5
theorem T0_ok : lOK T0 := ⟨Or.inl rfl, Or.inr rfl⟩

