/-! numbers: ints and longs of the machine as whole numbers -/
abbrev TH : Type := Nat → Nat → Int → Int
def zI (z : Int) : Int32 := Int32.ofInt z
def zJ (z : Int) : Int64 := Int64.ofInt z
def zi (b : Bool) : Int := bif b then 1 else 0
def zR (a : Int) : Prop := -2147483648 ≤ a ∧ a ≤ 2147483647
def zRL (a : Int) : Prop := -9223372036854775808 ≤ a ∧ a ≤ 9223372036854775807
theorem zI_toInt {a : Int} (h : zR a) : (zI a).toInt = a := by
  obtain ⟨h1, h2⟩ := h
  exact Int32.toInt_ofInt_of_le (by omega) (by omega)
theorem zJ_toInt {a : Int} (h : zRL a) : (zJ a).toInt = a := by
  obtain ⟨h1, h2⟩ := h
  exact Int64.toInt_ofInt_of_le (by omega) (by omega)
theorem zI_of (x : Int32) : zI x.toInt = x := Int32.ofInt_toInt x
theorem zJ_of (x : Int64) : zJ x.toInt = x := Int64.ofInt_toInt x
theorem zI_add (a b : Int) : zI a + zI b = zI (a + b) := (Int32.ofInt_add a b).symm
theorem zI_sub (a b : Int) : zI a - zI b = zI (a - b) := (Int32.ofInt_sub a b).symm
theorem zI_mul (a b : Int) : zI a * zI b = zI (a * b) := (Int32.ofInt_mul a b).symm
theorem zI_neg (a : Int) : -zI a = zI (-a) := (Int32.ofInt_neg a).symm
theorem zJ_add (a b : Int) : zJ a + zJ b = zJ (a + b) := (Int64.ofInt_add a b).symm
theorem zJ_sub (a b : Int) : zJ a - zJ b = zJ (a - b) := (Int64.ofInt_sub a b).symm
theorem zJ_mul (a b : Int) : zJ a * zJ b = zJ (a * b) := (Int64.ofInt_mul a b).symm
def zand (a b : Int) : Int := (zI a &&& zI b).toInt
def zor (a b : Int) : Int := (zI a ||| zI b).toInt
def zxor (a b : Int) : Int := (zI a ^^^ zI b).toInt
def zshl (a b : Int) : Int := (zI a <<< (zI b &&& 31)).toInt
def zshr (a b : Int) : Int := (zI a >>> (zI b &&& 31)).toInt
def zushr (a b : Int) : Int := ((zI a).toUInt32 >>> ((zI b).toUInt32 &&& Int32.toUInt32 31)).toInt32.toInt
def zdiv (a b : Int) : Int := (zI a / zI b).toInt
def zrem (a b : Int) : Int := (zI a - zI a / zI b * zI b).toInt
def zlandL (a b : Int) : Int := (zJ a &&& zJ b).toInt
def zdivL (a b : Int) : Int := (zJ a / zJ b).toInt
def zremL (a b : Int) : Int := (zJ a - zJ a / zJ b * zJ b).toInt
theorem zI_lt {a b : Int} (ha : zR a) (hb : zR b) : zI a < zI b ↔ a < b := by rw [Int32.lt_iff_toInt_lt, zI_toInt ha, zI_toInt hb]
theorem zI_le {a b : Int} (ha : zR a) (hb : zR b) : zI a ≤ zI b ↔ a ≤ b := by rw [Int32.le_iff_toInt_le, zI_toInt ha, zI_toInt hb]
theorem zI_eq {a b : Int} (ha : zR a) (hb : zR b) : zI a = zI b ↔ a = b := by rw [← Int32.toInt_inj, zI_toInt ha, zI_toInt hb]
theorem zJ_lt {a b : Int} (ha : zRL a) (hb : zRL b) : zJ a < zJ b ↔ a < b := by rw [Int64.lt_iff_toInt_lt, zJ_toInt ha, zJ_toInt hb]
theorem zJ_eq {a b : Int} (ha : zRL a) (hb : zRL b) : zJ a = zJ b ↔ a = b := by rw [← Int64.toInt_inj, zJ_toInt ha, zJ_toInt hb]
theorem z0 : zR 0 := by unfold zR; omega
theorem zI_0 : zI 0 = 0 := rfl
theorem zJ_0 : zJ 0 = 0 := rfl
theorem zI_in {i : Int} {n : Nat} (h0 : 0 ≤ i) (h : i < n) (hn : n ≤ 2147483647) : vp_in (zI i) n ∧ (zI i).toNatClampNeg = i.toNat := by
  have hr : (zI i).toInt = i := zI_toInt ⟨by omega, by omega⟩
  have hc : (zI i).toNatClampNeg = i.toNat := by
    show (zI i).toInt.toNat = i.toNat
    rw [hr]
  refine ⟨vp_in_iff.mpr ⟨by rw [hr]; exact h0, by rw [hr]; exact h⟩, hc⟩
theorem zI_toInt64 {a : Int} (h : zR a) : (zI a).toInt64 = zJ a := by
  rw [← Int64.toInt_inj, Int32.toInt_toInt64, zI_toInt h, zJ_toInt ⟨by obtain ⟨h1, h2⟩ := h; omega, by obtain ⟨h1, h2⟩ := h; omega⟩]
theorem zJ_toInt32 (a : Int) : (zJ a).toInt32 = zI a := by
  rw [← Int32.toInt_inj]
  show (zJ a).toInt32.toInt = (Int32.ofInt a).toInt
  rw [Int64.toInt_toInt32, Int32.toInt_ofInt]
  show (Int64.ofInt a).toInt.bmod 4294967296 = a.bmod 4294967296
  rw [Int64.toInt_ofInt]
  show (a.bmod 18446744073709551616).bmod 4294967296 = a.bmod 4294967296
  rw [Int.bmod_bmod_of_dvd (by decide)]
/-! the world: which cells there are -/
abbrev GT : Type := (Nat → ClassId) × (Nat → Nat → Nat) × (Nat → Nat) × (Nat → Nat → Nat) × (Nat → ClassId) × (Nat → Prop)
def gD (G : GT) : va_G := (G.1, G.2.1)
def gad (G : GT) : Nat → Nat := G.2.2.1
def gaa (G : GT) : Nat → Nat → Nat := G.2.2.2.1
def gcA (G : GT) : Nat → ClassId := G.2.2.2.2.1
def gA (G : GT) : Nat → Prop := G.2.2.2.2.2
def clsO (o : Nat) : Nat := ([8, 4, 3, 3, 2, 2, 2, 2, 6, 1, 7, 0, 5, 9] : List Nat).getD o 99
def kdT (k : Nat) : List Nat := ([[1, 0, 0, 0], [1, 1, 0], [0, 0, 1, 1, 1], [0, 0, 0, 0, 0, 0, 0, 0, 1, 1, 1, 1, 1, 1, 1, 1], [1, 0, 0, 0, 0, 0], [1, 1], [0, 1, 1], [1, 0, 0], [4, 2, 2, 7, 8, 1, 0, 11, 12, 13, 14, 15], [0, 1, 0, 0, 0, 0, 0, 0, 0, 0, 1, 0, 1, 0, 0, 1, 0, 0, 0, 1, 0, 1, 0, 0, 1, 0, 1, 1, 1, 1, 1, 0, 1, 1, 1, 1, 1, 1]] : List (List Nat)).getD k []
def arL : List (Nat × Nat × Nat × Nat) := [(0, 0, 0, 433), (1, 0, 0, 128), (1, 1, 0, 128), (2, 2, 0, 8), (2, 3, 0, 8), (2, 4, 0, 56), (3, 8, 0, 8), (3, 9, 0, 8), (3, 10, 0, 8), (3, 11, 0, 7), (3, 12, 0, 7), (3, 13, 0, 12), (3, 14, 0, 12), (3, 15, 0, 4), (4, 0, 0, 250), (5, 0, 0, 73), (5, 1, 0, 73), (6, 1, 0, 15), (6, 2, 0, 15), (7, 0, 0, 433), (8, 5, 3, 2), (9, 1, 0, 250), (9, 10, 0, 32), (9, 12, 0, 24), (9, 15, 0, 4), (9, 19, 0, 32), (9, 21, 0, 24), (9, 24, 0, 4), (9, 26, 0, 58), (9, 27, 0, 58), (9, 28, 0, 58), (9, 29, 0, 116), (9, 30, 2, 2), (9, 32, 0, 30), (9, 33, 0, 8), (9, 34, 0, 128), (9, 35, 1, 1200), (9, 36, 1, 1200), (9, 37, 0, 7)]
def wsT : List (Nat × Nat) := [(0, 0), (0, 6), (1, 0), (1, 1), (2, 0), (2, 9), (2, 10), (2, 11), (2, 12), (2, 13), (2, 14), (2, 15), (2, 16), (3, 0), (3, 9), (3, 10), (3, 11), (3, 12), (3, 13), (3, 14), (3, 15), (3, 16), (4, 0), (4, 3), (4, 4), (4, 5), (5, 0), (5, 3), (5, 4), (5, 5), (6, 0), (6, 3), (6, 4), (6, 5), (7, 0), (7, 3), (7, 4), (7, 5), (8, 0), (8, 2), (8, 3), (9, 0), (9, 1), (9, 2), (10, 0), (10, 1), (11, 0), (11, 1), (12, 0), (12, 1), (12, 2), (13, 0), (13, 2), (13, 11), (13, 13), (13, 16), (13, 20), (13, 22), (13, 25), (13, 27), (13, 28), (13, 29), (13, 30), (13, 31), (13, 33), (13, 34), (13, 35), (13, 36), (13, 37), (13, 38)]
def arT (k j : Nat) : Option (Nat × Nat) := (arL.find? (fun q => q.1 == k && q.2.1 == j)).map (fun q => q.2.2)
def fldV (G : GT) (Th : TH) (o j : Nat) (k : Nat) : Value := match k with
  | 0 => .int (zI (Th o j 0))
  | 1 => .ref (gaa G o j)
  | 2 => .ref (gad G (Th o j 0).toNat)
  | n + 3 => .ref (gad G n)
def flds (G : GT) (Th : TH) (o : Nat) : List Value := (kdT (clsO o)).mapIdx (fun j k => fldV G Th o j k)
def arC (G : GT) (Th : TH) (o j : Nat) (q : Nat × Nat) : va_E := match q.1 with
  | 0 => .inl (gcA G 0, q.2, .inl (fun i => zI (Th o j i)))
  | 1 => .inl (gcA G 1, q.2, .inr (.inl (fun i => zJ (Th o j i))))
  | 2 => .inl (gcA G 2, q.2, .inl (fun i => zI (Th o j i)))
  | _ => .inl (gcA G 3, q.2, .inr (.inr (.inr (.inr (va_up (va_up (fun _ => none) 0 (some (gad G 6))) 1 (some (gad G 7)))))))
def cel (G : GT) (Th : TH) (q : Nat × Nat) : Nat × va_E := match q.2 with
  | 0 => (gad G q.1, .inr (clsO q.1, flds G Th q.1))
  | j + 1 => (gaa G q.1 j, arC G Th q.1 j ((arT (clsO q.1) j).getD (0, 0)))
def wsG (G : GT) (Th : TH) : va_W := wsT.map (cel G Th)
def tysG (G : GT) : List (ClassId × FieldType) := [(gcA G 0, .int), (gcA G 1, .long), (gcA G 2, .boolean), (gcA G 3, .object "KnownWeight$Heads")]
def lOK (Th : TH) : Prop := (Th 0 1 0 = 2 ∨ Th 0 1 0 = 3) ∧ (Th 0 2 0 = 2 ∨ Th 0 2 0 = 3)
def up (Th : TH) (o j : Nat) (i v : Int) : TH := fun o' j' i' => if o' = o ∧ j' = j ∧ i' = i then v else Th o' j' i'
theorem up_eq (Th : TH) (o j : Nat) (i v : Int) : up Th o j i v o j i = v := by simp [up]
theorem up_ne {Th : TH} {o j o' j' : Nat} {i i' v : Int} (h : ¬ (o' = o ∧ j' = j ∧ i' = i)) : up Th o j i v o' j' i' = Th o' j' i' := by simp [up, h]
set_option maxRecDepth 100000 in
theorem wsT_obj : ∀ o, o < 14 → ∃ k, k < 70 ∧ wsT[k]? = some (o, 0) := by decide +kernel
set_option maxRecDepth 100000 in
theorem wsT_arr : ∀ q ∈ arL, ∀ o, o < 14 → clsO o = q.1 → ∃ k, k < 70 ∧ wsT[k]? = some (o, q.2.1 + 1) := by decide +kernel
set_option maxRecDepth 100000 in
theorem wsT_nd : ∀ i, i < 70 → ∀ j, j < 70 → wsT[i]? = wsT[j]? → i = j := by decide +kernel
set_option maxRecDepth 100000 in
theorem wsT_len : wsT.length = 70 := by decide +kernel
set_option maxRecDepth 100000 in
theorem wsT_kd : ∀ q ∈ wsT, q.2 = 0 ∨ (kdT (clsO q.1))[q.2 - 1]? = some 1 := by decide +kernel
set_option maxRecDepth 100000 in
theorem arL_kd : ∀ q ∈ arL, (kdT q.1)[q.2.1]? = some 1 ∧ q.2.2.2 ≤ 2147483647 := by decide +kernel
theorem clsO_lt {o k : Nat} (h : clsO o = k) (hk : k < 10) : o < 14 := by
  rcases Nat.lt_or_ge o 14 with q | q
  · exact q
  · exfalso
    have : clsO o = 99 := by
      unfold clsO
      rw [List.getD_eq_getElem?_getD, List.getElem?_eq_none (by simpa using q)]
      rfl
    omega
theorem arT_mem {k j : Nat} {q : Nat × Nat} (h : arT k j = some q) : (k, j, q.1, q.2) ∈ arL := by
  unfold arT at h
  cases hf : arL.find? (fun q => q.1 == k && q.2.1 == j) with
  | none => rw [hf] at h; cases h
  | some x =>
    rw [hf] at h
    have h2 := Option.some.inj h
    have h3 := List.mem_of_find?_eq_some hf
    have h4 := List.find?_some hf
    simp at h4
    obtain ⟨x1, x2, x3, x4⟩ := x
    obtain ⟨q1, q2⟩ := q
    simp at h2 h4
    obtain ⟨rfl, rfl⟩ := h2
    obtain ⟨rfl, rfl⟩ := h4
    exact h3
theorem arT_cls {o j : Nat} {q : Nat × Nat} (h : arT (clsO o) j = some q) : o < 14 := by
  rcases Nat.lt_or_ge o 14 with hq | hq
  · exact hq
  · exfalso
    have h9 : clsO o = 99 := by
      unfold clsO
      rw [List.getD_eq_getElem?_getD, List.getElem?_eq_none (by simpa using hq)]
      rfl
    have h1 := arT_mem h
    rw [h9] at h1
    have h2 : ∀ q ∈ arL, q.1 ≠ 99 := by decide +kernel
    exact h2 _ h1 rfl
theorem ws_at (G : GT) (Th : TH) {k : Nat} {q : Nat × Nat} (h : wsT[k]? = some q) : (wsG G Th)[k]? = some (cel G Th q) := by
  unfold wsG
  rw [List.getElem?_map, h]
  rfl
theorem ws_set (G : GT) (Th Th' : TH) {k : Nat} {q : Nat × Nat} {e : Nat × va_E} (hk : k < 70) (h : wsT[k]? = some q) (he : cel G Th' q = e) (ho : ∀ q' ∈ wsT, q' ≠ q → cel G Th' q' = cel G Th q') : (wsG G Th).set k e = wsG G Th' := by
  apply List.ext_getElem?
  intro i
  rw [List.getElem?_set]
  have hlen : (wsG G Th).length = 70 := by unfold wsG; rw [List.length_map]; exact wsT_len
  by_cases hi : k = i
  · subst hi
    rw [if_pos rfl, if_pos (by omega), ws_at G Th' h, he]
  · rw [if_neg hi]
    cases hw : wsT[i]? with
    | none =>
      unfold wsG
      rw [List.getElem?_map, List.getElem?_map, hw]
      rfl
    | some q' =>
      rw [ws_at G Th hw, ws_at G Th' hw]
      have hi70 : i < 70 := by rw [← wsT_len]; exact (List.getElem?_eq_some_iff.mp hw).1
      have hne : q' ≠ q := fun hq => hi (wsT_nd k hk i hi70 (by rw [h, hw, hq]))
      rw [ho q' (List.mem_of_getElem? hw) hne]
theorem flds_get (G : GT) (Th : TH) (o : Nat) {j k : Nat} (h : (kdT (clsO o))[j]? = some k) : (flds G Th o)[j]? = some (fldV G Th o j k) := by
  unfold flds
  rw [List.getElem?_mapIdx, h]
  rfl
theorem flds_up (G : GT) (Th : TH) (o j : Nat) (v : Int) : (kdT (clsO o))[j]? = some 0 → flds G (up Th o j 0 v) o = (flds G Th o).set j (.int (zI v)) := by
  intro h
  apply List.ext_getElem?
  intro i
  rw [List.getElem?_set]
  have hj : j < (flds G Th o).length := by
    unfold flds
    rw [List.length_mapIdx]
    exact (List.getElem?_eq_some_iff.mp h).1
  by_cases hi : j = i
  · subst hi
    rw [if_pos rfl, if_pos hj, flds_get G _ o h]
    simp [fldV, up]
  · rw [if_neg hi]
    cases hk : (kdT (clsO o))[i]? with
    | none =>
      unfold flds
      rw [List.getElem?_mapIdx, List.getElem?_mapIdx, hk]
      rfl
    | some k =>
      rw [flds_get G _ o hk, flds_get G _ o hk]
      have hne : ∀ x : Int, up Th o j 0 v o i x = Th o i x := fun x => up_ne (fun q => hi q.2.1.symm)
      match k with
      | 0 => simp only [fldV, hne]
      | 1 => rfl
      | 2 => simp only [fldV, hne]
      | n + 3 => rfl
theorem flds_same (G : GT) {Th Th' : TH} {o : Nat} (h : ∀ j k, (kdT (clsO o))[j]? = some k → k = 0 ∨ k = 2 → Th' o j 0 = Th o j 0) : flds G Th' o = flds G Th o := by
  apply List.ext_getElem?
  intro i
  cases hk : (kdT (clsO o))[i]? with
  | none =>
    unfold flds
    rw [List.getElem?_mapIdx, List.getElem?_mapIdx, hk]
    rfl
  | some k =>
    rw [flds_get G _ o hk, flds_get G _ o hk]
    match k, hk with
    | 0, hk => simp only [fldV, h i 0 hk (Or.inl rfl)]
    | 1, hk => rfl
    | 2, hk => simp only [fldV, h i 2 hk (Or.inr rfl)]
    | n + 3, hk => rfl
theorem arC_same (G : GT) {Th Th' : TH} {o j : Nat} (q : Nat × Nat) (h : ∀ i, Th' o j i = Th o j i) : arC G Th' o j q = arC G Th o j q := by
  obtain ⟨t, n⟩ := q
  match t with
  | 0 => simp only [arC, h]
  | 1 => simp only [arC, h]
  | 2 => simp only [arC, h]
  | t + 3 => rfl
/-- an int field is put: the world behind it -/
theorem ws_putI (G : GT) (Th : TH) {o j k : Nat} (v : Int) (hk : k < 70) (h : wsT[k]? = some (o, 0)) (hj : (kdT (clsO o))[j]? = some 0) : (wsG G Th).set k (gad G o, .inr (clsO o, (flds G Th o).set j (.int (zI v)))) = wsG G (up Th o j 0 v) := by
  refine ws_set G Th _ hk h ?_ ?_
  · show (gad G o, Sum.inr (clsO o, flds G (up Th o j 0 v) o)) = _
    rw [flds_up G Th o j v hj]
  · intro q' hq' hne
    obtain ⟨o', x⟩ := q'
    cases x with
    | zero =>
      show (gad G o', Sum.inr (clsO o', flds G _ o')) = (gad G o', Sum.inr (clsO o', flds G _ o'))
      rw [flds_same G (fun j' k' _ _ => up_ne (fun z => hne (by rw [z.1])))]
    | succ j' =>
      have h1 := (wsT_kd _ hq').resolve_left (by simp)
      show (gaa G o' j', arC G _ o' j' _) = (gaa G o' j', arC G _ o' j' _)
      rw [arC_same G _ (fun i => up_ne (fun z => by
        obtain ⟨rfl, rfl, -⟩ := z
        have h2 : (kdT (clsO o'))[j']? = some 1 := h1
        rw [hj] at h2
        cases h2))]
/-- an array is put: the world behind it -/
theorem ws_putA (G : GT) (Th Th' : TH) {o j k : Nat} {q : Nat × Nat} (hk : k < 70) (h : wsT[k]? = some (o, j + 1)) (hq : arT (clsO o) j = some q) (hs : ∀ o' j' i', ¬ (o' = o ∧ j' = j) → Th' o' j' i' = Th o' j' i') : (wsG G Th).set k (gaa G o j, arC G Th' o j q) = wsG G Th' := by
  refine ws_set G Th _ hk h ?_ ?_
  · show (gaa G o j, arC G Th' o j ((arT (clsO o) j).getD (0, 0))) = _
    rw [hq]
    rfl
  · intro q' hq' hne
    obtain ⟨o', x⟩ := q'
    have h1 := (arL_kd _ (arT_mem hq)).1
    cases x with
    | zero =>
      show (gad G o', Sum.inr (clsO o', flds G _ o')) = (gad G o', Sum.inr (clsO o', flds G _ o'))
      rw [flds_same G (fun j' k' hk' h0 => hs _ _ _ (fun z => by
        obtain ⟨rfl, rfl⟩ := z
        have h2 : (kdT (clsO o'))[j']? = some 1 := h1
        rw [hk'] at h2
        have h3 := Option.some.inj h2
        omega))]
    | succ j' =>
      show (gaa G o' j', arC G _ o' j' _) = (gaa G o' j', arC G _ o' j' _)
      rw [arC_same G _ (fun i => hs _ _ _ (fun z => hne (by rw [z.1, z.2])))]
theorem lOK_up {Th : TH} {o j : Nat} {i v : Int} {k : Nat} (h : lOK Th) (hk : (kdT (clsO o))[j]? = some k) (h2 : k ≠ 2) : lOK (up Th o j i v) := by
  have n1 : ¬ ((0 : Nat) = o ∧ (1 : Nat) = j ∧ (0 : Int) = i) := fun z => by
    obtain ⟨rfl, rfl, -⟩ := z
    exact h2 (Option.some.inj hk).symm
  have n2 : ¬ ((0 : Nat) = o ∧ (2 : Nat) = j ∧ (0 : Int) = i) := fun z => by
    obtain ⟨rfl, rfl, -⟩ := z
    exact h2 (Option.some.inj hk).symm
  unfold lOK
  rw [up_ne n1, up_ne n2]
  exact h
theorem lOK_cls {Th : TH} (h : lOK Th) : clsO (Th 0 1 0).toNat = 3 ∧ clsO (Th 0 2 0).toNat = 3 := by
  obtain ⟨h1 | h1, h2 | h2⟩ := h <;> rw [h1, h2] <;> exact ⟨rfl, rfl⟩
