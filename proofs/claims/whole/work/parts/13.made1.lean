set_option maxRecDepth 100000 in
theorem k9_end {D : va_G} {cA : Nat → ClassId} {A : Nat → Prop} {l : Launch} {X : CX} {ad ad1 : Nat → Nat} {aa1 : Nat → Nat → Nat} {h0 : Nat} {P : TH → Prop} (hP : wp_X9_begin T0 P) (C : CU D [(cA 0, .int), (cA 1, .long), (cA 2, .boolean), (cA 3, .object "KnownWeight$Heads")] A l X cX9_init 1 yX9_init.cls { frames := 1, cells := 18, slots := 3235, locals := 21 }) (E : EU A X 18 3235 (va_Qv (S := (Nat → Nat) × (Nat → Nat → Nat) × TH) (fun _ => True) (fun u t => Wd (gOf D cA A u.1 u.2.1) u.2.2 t ∧ (∀ q, t.heap.size ≤ q → A q) ∧ P u.2.2 ∧ u.1 13 = h0 ∧ u.1 0 = ad 0) A)) (f1 : ad1 13 = h0) (f2 : ad1 0 = ad 0) : UC D A X (wsG (gOf D cA A ad1 aa1) T0) 18 3235 155 [(0, .ref h0)] [.ref h0] := by
  subst f1
  obtain ⟨p, l2, e, R, s, m, args, below, meth, c, nc0, ns0, Q⟩ := X
  refine u_ofV T0_ok ?_
  have hc := C
  obtain ⟨hx, hb, hml, hown, hts, hK, hR, hl0, hA⟩ := hc
  have CV : CT (gOf D cA A ad1 aa1) l (p, l2, e, R, s, m, args, below, meth, c, 18, 3235, Q) cX9_init 1 yX9_init.cls { frames := 1, cells := 18, slots := 3235, locals := 21 } := ⟨hx, hb, hml, hown, hts, hK, hR, by rw [hR]; exact Nat.le_refl _, by rw [hR]; exact Nat.le_refl _, hl0⟩
  refine v_cVN CV kX9 (o := 13) rfl (s_X9_begin (gOf D cA A ad1 aa1) l hP) mv_X9_begin wd_812 ⟨by decide, by decide⟩ rfl rfl (Nat.le_of_ble_eq_true rfl) dX9_init_155 (fun T1 hT1 => ?_)
  intro H locs ls h1 h2 h3 h4 h5
  refine u_vret C E dX9_init_158 (ad1, aa1, T1) (fun U h => ?_) H locs ls h2 h3 h4 h5
  exact ⟨⟨h1, h.1, h.2.1, h.2.2.1⟩, h.2.2.2, hT1, rfl, f2⟩
