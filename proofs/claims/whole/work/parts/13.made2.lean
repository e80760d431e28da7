set_option maxRecDepth 100000 in
set_option maxHeartbeats 4000000 in
theorem k9_walk {D : va_G} {cA : Nat → ClassId} {A : Nat → Prop} {l : Launch} {X : CX} {rm : Room} (C : CU D [(cA 0, .int), (cA 1, .long), (cA 2, .boolean), (cA 3, .object "KnownWeight$Heads")] A l X cX9_init 1 yX9_init.cls rm) (hin : IN X) (hf : 1 ≤ rm.frames) (hl : 12 ≤ rm.locals) (hrc : rm.cells = 18) (hrs : rm.slots = 3235) {ws : va_W} {p h0 : Nat} (hp : ws[p]? = some (bl9 h0)) (k : ∀ q1 q2 q3 q4 q5 q6 q7 q8 q9 q10 q11 q12 q13 q14 q15 q16 q17 q18 : Nat, UC D A X (ws.set p (eM9 h0 q1 q2 q3 q4 q5 q6 q7 q8 q9 q10 q11 q12 q13 q14 q15 q16 q17 q18) ++ lM9 cA q1 q2 q3 q4 q5 q6 q7 q8 q9 q10 q11 q12 q13 q14 q15 q16 q17 q18) 18 3235 155 [(0, .ref h0)] [.ref h0]) : UC D A X ws 0 0 0 [(0, .ref h0)] [] := by
  have hpl : p < ws.length := (List.getElem?_eq_some_iff.mp hp).1
  refine u_eq (cw_0 hp) ?_
  refine u_aload_n C 0 dX9_init_0 rfl ?_
  refine u_obj C wd_811 wd_81 wd_82 dX9_init_1 hf (by simpa using hl) ?_
  refine u_aload_n C 0 dX9_init_4 rfl ?_
  refine u_sipush (v := zI 250) C dX9_init_5 (by decide) ?_
  refine u_newa (ty := .int) (N := 250) (a0 := (250, .inl (fun _ => zI 0))) C rfl wd_110 0 rfl (fun _ h => by cases h) (fun _ => rfl) (by decide) (by decide) (by decide) (by rw [hrc]; decide) (by rw [hrs]; decide) dX9_init_8 (fun q1 => ?_)
  rw [cw_new]
  refine u_putF C hin kX9 p 1 (cw_get hpl) (by decide) wd_817 rfl rfl rfl rfl rfl (Nat.le_of_ble_eq_true rfl) dX9_init_10 ?_
  rw [cw_set hpl]
  show UC _ _ X (ws.set p (h0, .inr (9, [.int (zI 0), .ref q1, .int (zI 0), .int (zI 0), .int (zI 0), .int (zI 0), .int (zI 0), .int (zI 0), .int (zI 0), .int (zI 0), .null, .int (zI 0), .null, .int (zI 0), .int (zI 0), .null, .int (zI 0), .int (zI 0), .int (zI 0), .null, .int (zI 0), .null, .int (zI 0), .int (zI 0), .null, .int (zI 0), .null, .null, .null, .null, .null, .int (zI 0), .null, .null, .null, .null, .null, .null])) ++ [(q1, .inl (cA 0, 250, .inl (fun _ => zI 0)))]) _ _ _ _ _
  refine u_aload_n C 0 dX9_init_13 rfl ?_
  refine u_iconst (v := zI (-1)) C dX9_init_14 (by decide) ?_
  refine u_put C kX9 p 6 (cw_get hpl) (by decide) wd_822 rfl rfl rfl rfl (Nat.le_of_ble_eq_true rfl) dX9_init_15 ?_
  rw [cw_set hpl]
  show UC _ _ X (ws.set p (h0, .inr (9, [.int (zI 0), .ref q1, .int (zI 0), .int (zI 0), .int (zI 0), .int (zI 0), .int (zI (-1)), .int (zI 0), .int (zI 0), .int (zI 0), .null, .int (zI 0), .null, .int (zI 0), .int (zI 0), .null, .int (zI 0), .int (zI 0), .int (zI 0), .null, .int (zI 0), .null, .int (zI 0), .int (zI 0), .null, .int (zI 0), .null, .null, .null, .null, .null, .int (zI 0), .null, .null, .null, .null, .null, .null])) ++ [(q1, .inl (cA 0, 250, .inl (fun _ => zI 0)))]) _ _ _ _ _
  refine u_aload_n C 0 dX9_init_18 rfl ?_
  refine u_bipush (v := zI 32) C dX9_init_19 (by decide) ?_
  refine u_newa (ty := .int) (N := 32) (a0 := (32, .inl (fun _ => zI 0))) C rfl wd_110 0 rfl (fun _ h => by cases h) (fun _ => rfl) (by decide) (by decide) (by decide) (by rw [hrc]; decide) (by rw [hrs]; decide) dX9_init_21 (fun q2 => ?_)
  rw [cw_new]
  refine u_putF C hin kX9 p 10 (cw_get hpl) (by decide) wd_826 rfl rfl rfl rfl rfl (Nat.le_of_ble_eq_true rfl) dX9_init_23 ?_
  rw [cw_set hpl]
  show UC _ _ X (ws.set p (h0, .inr (9, [.int (zI 0), .ref q1, .int (zI 0), .int (zI 0), .int (zI 0), .int (zI 0), .int (zI (-1)), .int (zI 0), .int (zI 0), .int (zI 0), .ref q2, .int (zI 0), .null, .int (zI 0), .int (zI 0), .null, .int (zI 0), .int (zI 0), .int (zI 0), .null, .int (zI 0), .null, .int (zI 0), .int (zI 0), .null, .int (zI 0), .null, .null, .null, .null, .null, .int (zI 0), .null, .null, .null, .null, .null, .null])) ++ [(q1, .inl (cA 0, 250, .inl (fun _ => zI 0))), (q2, .inl (cA 0, 32, .inl (fun _ => zI 0)))]) _ _ _ _ _
  refine u_aload_n C 0 dX9_init_26 rfl ?_
  refine u_bipush (v := zI 24) C dX9_init_27 (by decide) ?_
  refine u_newa (ty := .int) (N := 24) (a0 := (24, .inl (fun _ => zI 0))) C rfl wd_110 0 rfl (fun _ h => by cases h) (fun _ => rfl) (by decide) (by decide) (by decide) (by rw [hrc]; decide) (by rw [hrs]; decide) dX9_init_29 (fun q3 => ?_)
  rw [cw_new]
  refine u_putF C hin kX9 p 12 (cw_get hpl) (by decide) wd_828 rfl rfl rfl rfl rfl (Nat.le_of_ble_eq_true rfl) dX9_init_31 ?_
  rw [cw_set hpl]
  show UC _ _ X (ws.set p (h0, .inr (9, [.int (zI 0), .ref q1, .int (zI 0), .int (zI 0), .int (zI 0), .int (zI 0), .int (zI (-1)), .int (zI 0), .int (zI 0), .int (zI 0), .ref q2, .int (zI 0), .ref q3, .int (zI 0), .int (zI 0), .null, .int (zI 0), .int (zI 0), .int (zI 0), .null, .int (zI 0), .null, .int (zI 0), .int (zI 0), .null, .int (zI 0), .null, .null, .null, .null, .null, .int (zI 0), .null, .null, .null, .null, .null, .null])) ++ [(q1, .inl (cA 0, 250, .inl (fun _ => zI 0))), (q2, .inl (cA 0, 32, .inl (fun _ => zI 0))), (q3, .inl (cA 0, 24, .inl (fun _ => zI 0)))]) _ _ _ _ _
  refine u_aload_n C 0 dX9_init_34 rfl ?_
  refine u_iconst (v := zI 4) C dX9_init_35 (by decide) ?_
  refine u_newa (ty := .int) (N := 4) (a0 := (4, .inl (fun _ => zI 0))) C rfl wd_110 0 rfl (fun _ h => by cases h) (fun _ => rfl) (by decide) (by decide) (by decide) (by rw [hrc]; decide) (by rw [hrs]; decide) dX9_init_36 (fun q4 => ?_)
  rw [cw_new]
  refine u_putF C hin kX9 p 15 (cw_get hpl) (by decide) wd_831 rfl rfl rfl rfl rfl (Nat.le_of_ble_eq_true rfl) dX9_init_38 ?_
  rw [cw_set hpl]
  show UC _ _ X (ws.set p (h0, .inr (9, [.int (zI 0), .ref q1, .int (zI 0), .int (zI 0), .int (zI 0), .int (zI 0), .int (zI (-1)), .int (zI 0), .int (zI 0), .int (zI 0), .ref q2, .int (zI 0), .ref q3, .int (zI 0), .int (zI 0), .ref q4, .int (zI 0), .int (zI 0), .int (zI 0), .null, .int (zI 0), .null, .int (zI 0), .int (zI 0), .null, .int (zI 0), .null, .null, .null, .null, .null, .int (zI 0), .null, .null, .null, .null, .null, .null])) ++ [(q1, .inl (cA 0, 250, .inl (fun _ => zI 0))), (q2, .inl (cA 0, 32, .inl (fun _ => zI 0))), (q3, .inl (cA 0, 24, .inl (fun _ => zI 0))), (q4, .inl (cA 0, 4, .inl (fun _ => zI 0)))]) _ _ _ _ _
  refine u_aload_n C 0 dX9_init_41 rfl ?_
  refine u_bipush (v := zI 32) C dX9_init_42 (by decide) ?_
  refine u_newa (ty := .int) (N := 32) (a0 := (32, .inl (fun _ => zI 0))) C rfl wd_110 0 rfl (fun _ h => by cases h) (fun _ => rfl) (by decide) (by decide) (by decide) (by rw [hrc]; decide) (by rw [hrs]; decide) dX9_init_44 (fun q5 => ?_)
  rw [cw_new]
  refine u_putF C hin kX9 p 19 (cw_get hpl) (by decide) wd_835 rfl rfl rfl rfl rfl (Nat.le_of_ble_eq_true rfl) dX9_init_46 ?_
  rw [cw_set hpl]
  show UC _ _ X (ws.set p (h0, .inr (9, [.int (zI 0), .ref q1, .int (zI 0), .int (zI 0), .int (zI 0), .int (zI 0), .int (zI (-1)), .int (zI 0), .int (zI 0), .int (zI 0), .ref q2, .int (zI 0), .ref q3, .int (zI 0), .int (zI 0), .ref q4, .int (zI 0), .int (zI 0), .int (zI 0), .ref q5, .int (zI 0), .null, .int (zI 0), .int (zI 0), .null, .int (zI 0), .null, .null, .null, .null, .null, .int (zI 0), .null, .null, .null, .null, .null, .null])) ++ [(q1, .inl (cA 0, 250, .inl (fun _ => zI 0))), (q2, .inl (cA 0, 32, .inl (fun _ => zI 0))), (q3, .inl (cA 0, 24, .inl (fun _ => zI 0))), (q4, .inl (cA 0, 4, .inl (fun _ => zI 0))), (q5, .inl (cA 0, 32, .inl (fun _ => zI 0)))]) _ _ _ _ _
  refine u_aload_n C 0 dX9_init_49 rfl ?_
  refine u_bipush (v := zI 24) C dX9_init_50 (by decide) ?_
  refine u_newa (ty := .int) (N := 24) (a0 := (24, .inl (fun _ => zI 0))) C rfl wd_110 0 rfl (fun _ h => by cases h) (fun _ => rfl) (by decide) (by decide) (by decide) (by rw [hrc]; decide) (by rw [hrs]; decide) dX9_init_52 (fun q6 => ?_)
  rw [cw_new]
  refine u_putF C hin kX9 p 21 (cw_get hpl) (by decide) wd_837 rfl rfl rfl rfl rfl (Nat.le_of_ble_eq_true rfl) dX9_init_54 ?_
  rw [cw_set hpl]
  show UC _ _ X (ws.set p (h0, .inr (9, [.int (zI 0), .ref q1, .int (zI 0), .int (zI 0), .int (zI 0), .int (zI 0), .int (zI (-1)), .int (zI 0), .int (zI 0), .int (zI 0), .ref q2, .int (zI 0), .ref q3, .int (zI 0), .int (zI 0), .ref q4, .int (zI 0), .int (zI 0), .int (zI 0), .ref q5, .int (zI 0), .ref q6, .int (zI 0), .int (zI 0), .null, .int (zI 0), .null, .null, .null, .null, .null, .int (zI 0), .null, .null, .null, .null, .null, .null])) ++ [(q1, .inl (cA 0, 250, .inl (fun _ => zI 0))), (q2, .inl (cA 0, 32, .inl (fun _ => zI 0))), (q3, .inl (cA 0, 24, .inl (fun _ => zI 0))), (q4, .inl (cA 0, 4, .inl (fun _ => zI 0))), (q5, .inl (cA 0, 32, .inl (fun _ => zI 0))), (q6, .inl (cA 0, 24, .inl (fun _ => zI 0)))]) _ _ _ _ _
  refine u_aload_n C 0 dX9_init_57 rfl ?_
  refine u_iconst (v := zI 4) C dX9_init_58 (by decide) ?_
  refine u_newa (ty := .int) (N := 4) (a0 := (4, .inl (fun _ => zI 0))) C rfl wd_110 0 rfl (fun _ h => by cases h) (fun _ => rfl) (by decide) (by decide) (by decide) (by rw [hrc]; decide) (by rw [hrs]; decide) dX9_init_59 (fun q7 => ?_)
  rw [cw_new]
  refine u_putF C hin kX9 p 24 (cw_get hpl) (by decide) wd_840 rfl rfl rfl rfl rfl (Nat.le_of_ble_eq_true rfl) dX9_init_61 ?_
  rw [cw_set hpl]
  show UC _ _ X (ws.set p (h0, .inr (9, [.int (zI 0), .ref q1, .int (zI 0), .int (zI 0), .int (zI 0), .int (zI 0), .int (zI (-1)), .int (zI 0), .int (zI 0), .int (zI 0), .ref q2, .int (zI 0), .ref q3, .int (zI 0), .int (zI 0), .ref q4, .int (zI 0), .int (zI 0), .int (zI 0), .ref q5, .int (zI 0), .ref q6, .int (zI 0), .int (zI 0), .ref q7, .int (zI 0), .null, .null, .null, .null, .null, .int (zI 0), .null, .null, .null, .null, .null, .null])) ++ [(q1, .inl (cA 0, 250, .inl (fun _ => zI 0))), (q2, .inl (cA 0, 32, .inl (fun _ => zI 0))), (q3, .inl (cA 0, 24, .inl (fun _ => zI 0))), (q4, .inl (cA 0, 4, .inl (fun _ => zI 0))), (q5, .inl (cA 0, 32, .inl (fun _ => zI 0))), (q6, .inl (cA 0, 24, .inl (fun _ => zI 0))), (q7, .inl (cA 0, 4, .inl (fun _ => zI 0)))]) _ _ _ _ _
  refine u_aload_n C 0 dX9_init_64 rfl ?_
  refine u_bipush (v := zI 58) C dX9_init_65 (by decide) ?_
  refine u_newa (ty := .int) (N := 58) (a0 := (58, .inl (fun _ => zI 0))) C rfl wd_110 0 rfl (fun _ h => by cases h) (fun _ => rfl) (by decide) (by decide) (by decide) (by rw [hrc]; decide) (by rw [hrs]; decide) dX9_init_67 (fun q8 => ?_)
  rw [cw_new]
  refine u_putF C hin kX9 p 26 (cw_get hpl) (by decide) wd_842 rfl rfl rfl rfl rfl (Nat.le_of_ble_eq_true rfl) dX9_init_69 ?_
  rw [cw_set hpl]
  show UC _ _ X (ws.set p (h0, .inr (9, [.int (zI 0), .ref q1, .int (zI 0), .int (zI 0), .int (zI 0), .int (zI 0), .int (zI (-1)), .int (zI 0), .int (zI 0), .int (zI 0), .ref q2, .int (zI 0), .ref q3, .int (zI 0), .int (zI 0), .ref q4, .int (zI 0), .int (zI 0), .int (zI 0), .ref q5, .int (zI 0), .ref q6, .int (zI 0), .int (zI 0), .ref q7, .int (zI 0), .ref q8, .null, .null, .null, .null, .int (zI 0), .null, .null, .null, .null, .null, .null])) ++ [(q1, .inl (cA 0, 250, .inl (fun _ => zI 0))), (q2, .inl (cA 0, 32, .inl (fun _ => zI 0))), (q3, .inl (cA 0, 24, .inl (fun _ => zI 0))), (q4, .inl (cA 0, 4, .inl (fun _ => zI 0))), (q5, .inl (cA 0, 32, .inl (fun _ => zI 0))), (q6, .inl (cA 0, 24, .inl (fun _ => zI 0))), (q7, .inl (cA 0, 4, .inl (fun _ => zI 0))), (q8, .inl (cA 0, 58, .inl (fun _ => zI 0)))]) _ _ _ _ _
  refine u_aload_n C 0 dX9_init_72 rfl ?_
  refine u_bipush (v := zI 58) C dX9_init_73 (by decide) ?_
  refine u_newa (ty := .int) (N := 58) (a0 := (58, .inl (fun _ => zI 0))) C rfl wd_110 0 rfl (fun _ h => by cases h) (fun _ => rfl) (by decide) (by decide) (by decide) (by rw [hrc]; decide) (by rw [hrs]; decide) dX9_init_75 (fun q9 => ?_)
  rw [cw_new]
  refine u_putF C hin kX9 p 27 (cw_get hpl) (by decide) wd_843 rfl rfl rfl rfl rfl (Nat.le_of_ble_eq_true rfl) dX9_init_77 ?_
  rw [cw_set hpl]
  show UC _ _ X (ws.set p (h0, .inr (9, [.int (zI 0), .ref q1, .int (zI 0), .int (zI 0), .int (zI 0), .int (zI 0), .int (zI (-1)), .int (zI 0), .int (zI 0), .int (zI 0), .ref q2, .int (zI 0), .ref q3, .int (zI 0), .int (zI 0), .ref q4, .int (zI 0), .int (zI 0), .int (zI 0), .ref q5, .int (zI 0), .ref q6, .int (zI 0), .int (zI 0), .ref q7, .int (zI 0), .ref q8, .ref q9, .null, .null, .null, .int (zI 0), .null, .null, .null, .null, .null, .null])) ++ [(q1, .inl (cA 0, 250, .inl (fun _ => zI 0))), (q2, .inl (cA 0, 32, .inl (fun _ => zI 0))), (q3, .inl (cA 0, 24, .inl (fun _ => zI 0))), (q4, .inl (cA 0, 4, .inl (fun _ => zI 0))), (q5, .inl (cA 0, 32, .inl (fun _ => zI 0))), (q6, .inl (cA 0, 24, .inl (fun _ => zI 0))), (q7, .inl (cA 0, 4, .inl (fun _ => zI 0))), (q8, .inl (cA 0, 58, .inl (fun _ => zI 0))), (q9, .inl (cA 0, 58, .inl (fun _ => zI 0)))]) _ _ _ _ _
  refine u_aload_n C 0 dX9_init_80 rfl ?_
  refine u_bipush (v := zI 58) C dX9_init_81 (by decide) ?_
  refine u_newa (ty := .int) (N := 58) (a0 := (58, .inl (fun _ => zI 0))) C rfl wd_110 0 rfl (fun _ h => by cases h) (fun _ => rfl) (by decide) (by decide) (by decide) (by rw [hrc]; decide) (by rw [hrs]; decide) dX9_init_83 (fun q10 => ?_)
  rw [cw_new]
  refine u_putF C hin kX9 p 28 (cw_get hpl) (by decide) wd_844 rfl rfl rfl rfl rfl (Nat.le_of_ble_eq_true rfl) dX9_init_85 ?_
  rw [cw_set hpl]
  show UC _ _ X (ws.set p (h0, .inr (9, [.int (zI 0), .ref q1, .int (zI 0), .int (zI 0), .int (zI 0), .int (zI 0), .int (zI (-1)), .int (zI 0), .int (zI 0), .int (zI 0), .ref q2, .int (zI 0), .ref q3, .int (zI 0), .int (zI 0), .ref q4, .int (zI 0), .int (zI 0), .int (zI 0), .ref q5, .int (zI 0), .ref q6, .int (zI 0), .int (zI 0), .ref q7, .int (zI 0), .ref q8, .ref q9, .ref q10, .null, .null, .int (zI 0), .null, .null, .null, .null, .null, .null])) ++ [(q1, .inl (cA 0, 250, .inl (fun _ => zI 0))), (q2, .inl (cA 0, 32, .inl (fun _ => zI 0))), (q3, .inl (cA 0, 24, .inl (fun _ => zI 0))), (q4, .inl (cA 0, 4, .inl (fun _ => zI 0))), (q5, .inl (cA 0, 32, .inl (fun _ => zI 0))), (q6, .inl (cA 0, 24, .inl (fun _ => zI 0))), (q7, .inl (cA 0, 4, .inl (fun _ => zI 0))), (q8, .inl (cA 0, 58, .inl (fun _ => zI 0))), (q9, .inl (cA 0, 58, .inl (fun _ => zI 0))), (q10, .inl (cA 0, 58, .inl (fun _ => zI 0)))]) _ _ _ _ _
  refine u_aload_n C 0 dX9_init_88 rfl ?_
  refine u_bipush (v := zI 116) C dX9_init_89 (by decide) ?_
  refine u_newa (ty := .int) (N := 116) (a0 := (116, .inl (fun _ => zI 0))) C rfl wd_110 0 rfl (fun _ h => by cases h) (fun _ => rfl) (by decide) (by decide) (by decide) (by rw [hrc]; decide) (by rw [hrs]; decide) dX9_init_91 (fun q11 => ?_)
  rw [cw_new]
  refine u_putF C hin kX9 p 29 (cw_get hpl) (by decide) wd_845 rfl rfl rfl rfl rfl (Nat.le_of_ble_eq_true rfl) dX9_init_93 ?_
  rw [cw_set hpl]
  show UC _ _ X (ws.set p (h0, .inr (9, [.int (zI 0), .ref q1, .int (zI 0), .int (zI 0), .int (zI 0), .int (zI 0), .int (zI (-1)), .int (zI 0), .int (zI 0), .int (zI 0), .ref q2, .int (zI 0), .ref q3, .int (zI 0), .int (zI 0), .ref q4, .int (zI 0), .int (zI 0), .int (zI 0), .ref q5, .int (zI 0), .ref q6, .int (zI 0), .int (zI 0), .ref q7, .int (zI 0), .ref q8, .ref q9, .ref q10, .ref q11, .null, .int (zI 0), .null, .null, .null, .null, .null, .null])) ++ [(q1, .inl (cA 0, 250, .inl (fun _ => zI 0))), (q2, .inl (cA 0, 32, .inl (fun _ => zI 0))), (q3, .inl (cA 0, 24, .inl (fun _ => zI 0))), (q4, .inl (cA 0, 4, .inl (fun _ => zI 0))), (q5, .inl (cA 0, 32, .inl (fun _ => zI 0))), (q6, .inl (cA 0, 24, .inl (fun _ => zI 0))), (q7, .inl (cA 0, 4, .inl (fun _ => zI 0))), (q8, .inl (cA 0, 58, .inl (fun _ => zI 0))), (q9, .inl (cA 0, 58, .inl (fun _ => zI 0))), (q10, .inl (cA 0, 58, .inl (fun _ => zI 0))), (q11, .inl (cA 0, 116, .inl (fun _ => zI 0)))]) _ _ _ _ _
  refine u_aload_n C 0 dX9_init_96 rfl ?_
  refine u_iconst (v := zI 2) C dX9_init_97 (by decide) ?_
  refine u_newa (ty := .boolean) (N := 2) (a0 := (2, .inl (fun _ => zI 0))) C rfl wd_931 2 rfl (fun _ h => by cases h) (fun _ => rfl) (by decide) (by decide) (by decide) (by rw [hrc]; decide) (by rw [hrs]; decide) dX9_init_98 (fun q12 => ?_)
  rw [cw_new]
  refine u_putF C hin kX9 p 30 (cw_get hpl) (by decide) wd_846 rfl rfl rfl rfl rfl (Nat.le_of_ble_eq_true rfl) dX9_init_100 ?_
  rw [cw_set hpl]
  show UC _ _ X (ws.set p (h0, .inr (9, [.int (zI 0), .ref q1, .int (zI 0), .int (zI 0), .int (zI 0), .int (zI 0), .int (zI (-1)), .int (zI 0), .int (zI 0), .int (zI 0), .ref q2, .int (zI 0), .ref q3, .int (zI 0), .int (zI 0), .ref q4, .int (zI 0), .int (zI 0), .int (zI 0), .ref q5, .int (zI 0), .ref q6, .int (zI 0), .int (zI 0), .ref q7, .int (zI 0), .ref q8, .ref q9, .ref q10, .ref q11, .ref q12, .int (zI 0), .null, .null, .null, .null, .null, .null])) ++ [(q1, .inl (cA 0, 250, .inl (fun _ => zI 0))), (q2, .inl (cA 0, 32, .inl (fun _ => zI 0))), (q3, .inl (cA 0, 24, .inl (fun _ => zI 0))), (q4, .inl (cA 0, 4, .inl (fun _ => zI 0))), (q5, .inl (cA 0, 32, .inl (fun _ => zI 0))), (q6, .inl (cA 0, 24, .inl (fun _ => zI 0))), (q7, .inl (cA 0, 4, .inl (fun _ => zI 0))), (q8, .inl (cA 0, 58, .inl (fun _ => zI 0))), (q9, .inl (cA 0, 58, .inl (fun _ => zI 0))), (q10, .inl (cA 0, 58, .inl (fun _ => zI 0))), (q11, .inl (cA 0, 116, .inl (fun _ => zI 0))), (q12, .inl (cA 2, 2, .inl (fun _ => zI 0)))]) _ _ _ _ _
  refine u_aload_n C 0 dX9_init_103 rfl ?_
  refine u_bipush (v := zI 30) C dX9_init_104 (by decide) ?_
  refine u_newa (ty := .int) (N := 30) (a0 := (30, .inl (fun _ => zI 0))) C rfl wd_110 0 rfl (fun _ h => by cases h) (fun _ => rfl) (by decide) (by decide) (by decide) (by rw [hrc]; decide) (by rw [hrs]; decide) dX9_init_106 (fun q13 => ?_)
  rw [cw_new]
  refine u_putF C hin kX9 p 32 (cw_get hpl) (by decide) wd_848 rfl rfl rfl rfl rfl (Nat.le_of_ble_eq_true rfl) dX9_init_108 ?_
  rw [cw_set hpl]
  show UC _ _ X (ws.set p (h0, .inr (9, [.int (zI 0), .ref q1, .int (zI 0), .int (zI 0), .int (zI 0), .int (zI 0), .int (zI (-1)), .int (zI 0), .int (zI 0), .int (zI 0), .ref q2, .int (zI 0), .ref q3, .int (zI 0), .int (zI 0), .ref q4, .int (zI 0), .int (zI 0), .int (zI 0), .ref q5, .int (zI 0), .ref q6, .int (zI 0), .int (zI 0), .ref q7, .int (zI 0), .ref q8, .ref q9, .ref q10, .ref q11, .ref q12, .int (zI 0), .ref q13, .null, .null, .null, .null, .null])) ++ [(q1, .inl (cA 0, 250, .inl (fun _ => zI 0))), (q2, .inl (cA 0, 32, .inl (fun _ => zI 0))), (q3, .inl (cA 0, 24, .inl (fun _ => zI 0))), (q4, .inl (cA 0, 4, .inl (fun _ => zI 0))), (q5, .inl (cA 0, 32, .inl (fun _ => zI 0))), (q6, .inl (cA 0, 24, .inl (fun _ => zI 0))), (q7, .inl (cA 0, 4, .inl (fun _ => zI 0))), (q8, .inl (cA 0, 58, .inl (fun _ => zI 0))), (q9, .inl (cA 0, 58, .inl (fun _ => zI 0))), (q10, .inl (cA 0, 58, .inl (fun _ => zI 0))), (q11, .inl (cA 0, 116, .inl (fun _ => zI 0))), (q12, .inl (cA 2, 2, .inl (fun _ => zI 0))), (q13, .inl (cA 0, 30, .inl (fun _ => zI 0)))]) _ _ _ _ _
  refine u_aload_n C 0 dX9_init_111 rfl ?_
  refine u_bipush (v := zI 8) C dX9_init_112 (by decide) ?_
  refine u_newa (ty := .int) (N := 8) (a0 := (8, .inl (fun _ => zI 0))) C rfl wd_110 0 rfl (fun _ h => by cases h) (fun _ => rfl) (by decide) (by decide) (by decide) (by rw [hrc]; decide) (by rw [hrs]; decide) dX9_init_114 (fun q14 => ?_)
  rw [cw_new]
  refine u_putF C hin kX9 p 33 (cw_get hpl) (by decide) wd_849 rfl rfl rfl rfl rfl (Nat.le_of_ble_eq_true rfl) dX9_init_116 ?_
  rw [cw_set hpl]
  show UC _ _ X (ws.set p (h0, .inr (9, [.int (zI 0), .ref q1, .int (zI 0), .int (zI 0), .int (zI 0), .int (zI 0), .int (zI (-1)), .int (zI 0), .int (zI 0), .int (zI 0), .ref q2, .int (zI 0), .ref q3, .int (zI 0), .int (zI 0), .ref q4, .int (zI 0), .int (zI 0), .int (zI 0), .ref q5, .int (zI 0), .ref q6, .int (zI 0), .int (zI 0), .ref q7, .int (zI 0), .ref q8, .ref q9, .ref q10, .ref q11, .ref q12, .int (zI 0), .ref q13, .ref q14, .null, .null, .null, .null])) ++ [(q1, .inl (cA 0, 250, .inl (fun _ => zI 0))), (q2, .inl (cA 0, 32, .inl (fun _ => zI 0))), (q3, .inl (cA 0, 24, .inl (fun _ => zI 0))), (q4, .inl (cA 0, 4, .inl (fun _ => zI 0))), (q5, .inl (cA 0, 32, .inl (fun _ => zI 0))), (q6, .inl (cA 0, 24, .inl (fun _ => zI 0))), (q7, .inl (cA 0, 4, .inl (fun _ => zI 0))), (q8, .inl (cA 0, 58, .inl (fun _ => zI 0))), (q9, .inl (cA 0, 58, .inl (fun _ => zI 0))), (q10, .inl (cA 0, 58, .inl (fun _ => zI 0))), (q11, .inl (cA 0, 116, .inl (fun _ => zI 0))), (q12, .inl (cA 2, 2, .inl (fun _ => zI 0))), (q13, .inl (cA 0, 30, .inl (fun _ => zI 0))), (q14, .inl (cA 0, 8, .inl (fun _ => zI 0)))]) _ _ _ _ _
  refine u_aload_n C 0 dX9_init_119 rfl ?_
  refine u_sipush (v := zI 128) C dX9_init_120 (by decide) ?_
  refine u_newa (ty := .int) (N := 128) (a0 := (128, .inl (fun _ => zI 0))) C rfl wd_110 0 rfl (fun _ h => by cases h) (fun _ => rfl) (by decide) (by decide) (by decide) (by rw [hrc]; decide) (by rw [hrs]; decide) dX9_init_123 (fun q15 => ?_)
  rw [cw_new]
  refine u_putF C hin kX9 p 34 (cw_get hpl) (by decide) wd_850 rfl rfl rfl rfl rfl (Nat.le_of_ble_eq_true rfl) dX9_init_125 ?_
  rw [cw_set hpl]
  show UC _ _ X (ws.set p (h0, .inr (9, [.int (zI 0), .ref q1, .int (zI 0), .int (zI 0), .int (zI 0), .int (zI 0), .int (zI (-1)), .int (zI 0), .int (zI 0), .int (zI 0), .ref q2, .int (zI 0), .ref q3, .int (zI 0), .int (zI 0), .ref q4, .int (zI 0), .int (zI 0), .int (zI 0), .ref q5, .int (zI 0), .ref q6, .int (zI 0), .int (zI 0), .ref q7, .int (zI 0), .ref q8, .ref q9, .ref q10, .ref q11, .ref q12, .int (zI 0), .ref q13, .ref q14, .ref q15, .null, .null, .null])) ++ [(q1, .inl (cA 0, 250, .inl (fun _ => zI 0))), (q2, .inl (cA 0, 32, .inl (fun _ => zI 0))), (q3, .inl (cA 0, 24, .inl (fun _ => zI 0))), (q4, .inl (cA 0, 4, .inl (fun _ => zI 0))), (q5, .inl (cA 0, 32, .inl (fun _ => zI 0))), (q6, .inl (cA 0, 24, .inl (fun _ => zI 0))), (q7, .inl (cA 0, 4, .inl (fun _ => zI 0))), (q8, .inl (cA 0, 58, .inl (fun _ => zI 0))), (q9, .inl (cA 0, 58, .inl (fun _ => zI 0))), (q10, .inl (cA 0, 58, .inl (fun _ => zI 0))), (q11, .inl (cA 0, 116, .inl (fun _ => zI 0))), (q12, .inl (cA 2, 2, .inl (fun _ => zI 0))), (q13, .inl (cA 0, 30, .inl (fun _ => zI 0))), (q14, .inl (cA 0, 8, .inl (fun _ => zI 0))), (q15, .inl (cA 0, 128, .inl (fun _ => zI 0)))]) _ _ _ _ _
  refine u_aload_n C 0 dX9_init_128 rfl ?_
  refine u_sipush (v := zI 1200) C dX9_init_129 (by decide) ?_
  refine u_newa (ty := .long) (N := 1200) (a0 := (1200, .inr (.inl (fun _ => zJ 0)))) C rfl wd_932 1 rfl (fun _ h => by cases h) (fun _ => rfl) (by decide) (by decide) (by decide) (by rw [hrc]; decide) (by rw [hrs]; decide) dX9_init_132 (fun q16 => ?_)
  rw [cw_new]
  refine u_putF C hin kX9 p 35 (cw_get hpl) (by decide) wd_851 rfl rfl rfl rfl rfl (Nat.le_of_ble_eq_true rfl) dX9_init_134 ?_
  rw [cw_set hpl]
  show UC _ _ X (ws.set p (h0, .inr (9, [.int (zI 0), .ref q1, .int (zI 0), .int (zI 0), .int (zI 0), .int (zI 0), .int (zI (-1)), .int (zI 0), .int (zI 0), .int (zI 0), .ref q2, .int (zI 0), .ref q3, .int (zI 0), .int (zI 0), .ref q4, .int (zI 0), .int (zI 0), .int (zI 0), .ref q5, .int (zI 0), .ref q6, .int (zI 0), .int (zI 0), .ref q7, .int (zI 0), .ref q8, .ref q9, .ref q10, .ref q11, .ref q12, .int (zI 0), .ref q13, .ref q14, .ref q15, .ref q16, .null, .null])) ++ [(q1, .inl (cA 0, 250, .inl (fun _ => zI 0))), (q2, .inl (cA 0, 32, .inl (fun _ => zI 0))), (q3, .inl (cA 0, 24, .inl (fun _ => zI 0))), (q4, .inl (cA 0, 4, .inl (fun _ => zI 0))), (q5, .inl (cA 0, 32, .inl (fun _ => zI 0))), (q6, .inl (cA 0, 24, .inl (fun _ => zI 0))), (q7, .inl (cA 0, 4, .inl (fun _ => zI 0))), (q8, .inl (cA 0, 58, .inl (fun _ => zI 0))), (q9, .inl (cA 0, 58, .inl (fun _ => zI 0))), (q10, .inl (cA 0, 58, .inl (fun _ => zI 0))), (q11, .inl (cA 0, 116, .inl (fun _ => zI 0))), (q12, .inl (cA 2, 2, .inl (fun _ => zI 0))), (q13, .inl (cA 0, 30, .inl (fun _ => zI 0))), (q14, .inl (cA 0, 8, .inl (fun _ => zI 0))), (q15, .inl (cA 0, 128, .inl (fun _ => zI 0))), (q16, .inl (cA 1, 1200, .inr (.inl (fun _ => zJ 0))))]) _ _ _ _ _
  refine u_aload_n C 0 dX9_init_137 rfl ?_
  refine u_sipush (v := zI 1200) C dX9_init_138 (by decide) ?_
  refine u_newa (ty := .long) (N := 1200) (a0 := (1200, .inr (.inl (fun _ => zJ 0)))) C rfl wd_932 1 rfl (fun _ h => by cases h) (fun _ => rfl) (by decide) (by decide) (by decide) (by rw [hrc]; decide) (by rw [hrs]; decide) dX9_init_141 (fun q17 => ?_)
  rw [cw_new]
  refine u_putF C hin kX9 p 36 (cw_get hpl) (by decide) wd_852 rfl rfl rfl rfl rfl (Nat.le_of_ble_eq_true rfl) dX9_init_143 ?_
  rw [cw_set hpl]
  show UC _ _ X (ws.set p (h0, .inr (9, [.int (zI 0), .ref q1, .int (zI 0), .int (zI 0), .int (zI 0), .int (zI 0), .int (zI (-1)), .int (zI 0), .int (zI 0), .int (zI 0), .ref q2, .int (zI 0), .ref q3, .int (zI 0), .int (zI 0), .ref q4, .int (zI 0), .int (zI 0), .int (zI 0), .ref q5, .int (zI 0), .ref q6, .int (zI 0), .int (zI 0), .ref q7, .int (zI 0), .ref q8, .ref q9, .ref q10, .ref q11, .ref q12, .int (zI 0), .ref q13, .ref q14, .ref q15, .ref q16, .ref q17, .null])) ++ [(q1, .inl (cA 0, 250, .inl (fun _ => zI 0))), (q2, .inl (cA 0, 32, .inl (fun _ => zI 0))), (q3, .inl (cA 0, 24, .inl (fun _ => zI 0))), (q4, .inl (cA 0, 4, .inl (fun _ => zI 0))), (q5, .inl (cA 0, 32, .inl (fun _ => zI 0))), (q6, .inl (cA 0, 24, .inl (fun _ => zI 0))), (q7, .inl (cA 0, 4, .inl (fun _ => zI 0))), (q8, .inl (cA 0, 58, .inl (fun _ => zI 0))), (q9, .inl (cA 0, 58, .inl (fun _ => zI 0))), (q10, .inl (cA 0, 58, .inl (fun _ => zI 0))), (q11, .inl (cA 0, 116, .inl (fun _ => zI 0))), (q12, .inl (cA 2, 2, .inl (fun _ => zI 0))), (q13, .inl (cA 0, 30, .inl (fun _ => zI 0))), (q14, .inl (cA 0, 8, .inl (fun _ => zI 0))), (q15, .inl (cA 0, 128, .inl (fun _ => zI 0))), (q16, .inl (cA 1, 1200, .inr (.inl (fun _ => zJ 0)))), (q17, .inl (cA 1, 1200, .inr (.inl (fun _ => zJ 0))))]) _ _ _ _ _
  refine u_aload_n C 0 dX9_init_146 rfl ?_
  refine u_bipush (v := zI 7) C dX9_init_147 (by decide) ?_
  refine u_newa (ty := .int) (N := 7) (a0 := (7, .inl (fun _ => zI 0))) C rfl wd_110 0 rfl (fun _ h => by cases h) (fun _ => rfl) (by decide) (by decide) (by decide) (by rw [hrc]; decide) (by rw [hrs]; decide) dX9_init_149 (fun q18 => ?_)
  rw [cw_new]
  refine u_putF C hin kX9 p 37 (cw_get hpl) (by decide) wd_853 rfl rfl rfl rfl rfl (Nat.le_of_ble_eq_true rfl) dX9_init_151 ?_
  rw [cw_set hpl]
  show UC _ _ X (ws.set p (h0, .inr (9, [.int (zI 0), .ref q1, .int (zI 0), .int (zI 0), .int (zI 0), .int (zI 0), .int (zI (-1)), .int (zI 0), .int (zI 0), .int (zI 0), .ref q2, .int (zI 0), .ref q3, .int (zI 0), .int (zI 0), .ref q4, .int (zI 0), .int (zI 0), .int (zI 0), .ref q5, .int (zI 0), .ref q6, .int (zI 0), .int (zI 0), .ref q7, .int (zI 0), .ref q8, .ref q9, .ref q10, .ref q11, .ref q12, .int (zI 0), .ref q13, .ref q14, .ref q15, .ref q16, .ref q17, .ref q18])) ++ [(q1, .inl (cA 0, 250, .inl (fun _ => zI 0))), (q2, .inl (cA 0, 32, .inl (fun _ => zI 0))), (q3, .inl (cA 0, 24, .inl (fun _ => zI 0))), (q4, .inl (cA 0, 4, .inl (fun _ => zI 0))), (q5, .inl (cA 0, 32, .inl (fun _ => zI 0))), (q6, .inl (cA 0, 24, .inl (fun _ => zI 0))), (q7, .inl (cA 0, 4, .inl (fun _ => zI 0))), (q8, .inl (cA 0, 58, .inl (fun _ => zI 0))), (q9, .inl (cA 0, 58, .inl (fun _ => zI 0))), (q10, .inl (cA 0, 58, .inl (fun _ => zI 0))), (q11, .inl (cA 0, 116, .inl (fun _ => zI 0))), (q12, .inl (cA 2, 2, .inl (fun _ => zI 0))), (q13, .inl (cA 0, 30, .inl (fun _ => zI 0))), (q14, .inl (cA 0, 8, .inl (fun _ => zI 0))), (q15, .inl (cA 0, 128, .inl (fun _ => zI 0))), (q16, .inl (cA 1, 1200, .inr (.inl (fun _ => zJ 0)))), (q17, .inl (cA 1, 1200, .inr (.inl (fun _ => zJ 0)))), (q18, .inl (cA 0, 7, .inl (fun _ => zI 0)))]) _ _ _ _ _
  refine u_aload_n C 0 dX9_init_154 rfl ?_
  exact k q1 q2 q3 q4 q5 q6 q7 q8 q9 q10 q11 q12 q13 q14 q15 q16 q17 q18
