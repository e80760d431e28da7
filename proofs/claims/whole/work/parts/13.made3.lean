set_option maxRecDepth 100000 in
set_option maxHeartbeats 4000000 in
/-- the reference is made: the world is whole, begin has been called -/
theorem k_X9_init (D : va_G) (cA : Nat → ClassId) (A : Nat → Prop) (l : Launch) (ad : Nat → Nat) (aa : Nat → Nat → Nat) (h0 : Nat) {P : TH → Prop} (hP : wp_X9_begin T0 P) : MU D [(cA 0, .int), (cA 1, .long), (cA 2, .boolean), (cA 3, .object "KnownWeight$Heads")] A l yX9_init cX9_init 1 18 3235 21 h0 (wsTK.map (cel (gOf D cA A ad aa) T0) ++ [bl9 h0]) (fun _ => True) (S := (Nat → Nat) × (Nat → Nat → Nat) × TH) (fun u t => Wd (gOf D cA A u.1 u.2.1) u.2.2 t ∧ (∀ q, t.heap.size ≤ q → A q) ∧ P u.2.2 ∧ u.1 13 = h0 ∧ u.1 0 = ad 0) := by
  refine mu_of D _ A l (by decide) rfl (fun X C hin hex E => ?_)
  refine k9_walk C hin (by decide) (by decide) rfl rfl (ws := wsTK.map (cel (gOf D cA A ad aa) T0) ++ [bl9 h0]) (p := 51) rfl (fun q1 q2 q3 q4 q5 q6 q7 q8 q9 q10 q11 q12 q13 q14 q15 q16 q17 q18 => ?_)
  refine u_eq (m_world D cA A ad aa h0 q1 q2 q3 q4 q5 q6 q7 q8 q9 q10 q11 q12 q13 q14 q15 q16 q17 q18) ?_
  have f1 : (fun o => bif Nat.beq o 13 then h0 else ad o) 13 = h0 := rfl
  have f2 : (fun o => bif Nat.beq o 13 then h0 else ad o) 0 = ad 0 := rfl
  generalize (fun o => bif Nat.beq o 13 then h0 else ad o) = ad1 at f1 f2 ⊢
  generalize (fun o j => bif Nat.beq o 13 then ([0, q1, 0, 0, 0, 0, 0, 0, 0, 0, q2, 0, q3, 0, 0, q4, 0, 0, 0, q5, 0, q6, 0, 0, q7, 0, q8, q9, q10, q11, q12, 0, q13, q14, q15, q16, q17, q18] : List Nat).getD j 0 else aa o j) = aa1
  exact k9_end hP C E f1 f2
