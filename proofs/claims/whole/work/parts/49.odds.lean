/-! odds: how a billion is spread -/
def mvS (q x : Int) : Int := x * q / 100
theorem mv_R {q x : Int} (q0 : 0 ≤ q) (q1 : q ≤ 100) (x0 : 0 ≤ x) : 0 ≤ mvS q x ∧ mvS q x ≤ x := by
  unfold mvS
  have h1 : 0 ≤ x * q := Int.mul_nonneg x0 q0
  have h2 : x * q ≤ x * 100 := Int.mul_le_mul_of_nonneg_left q1 x0
  omega
theorem mv_0 (q : Int) : mvS q 0 = 0 := by
  unfold mvS
  rw [Int.zero_mul]
  rfl
def odN (q b : Int) (R : Int → Int) (w : Int) : Int := R w - mvS q (R w) + mvS q (R (w - b))
def odI (q b : Int) (R : Int → Int) : Nat → Int → Int
  | 0 => R
  | k + 1 => odN q b (odI q b R k)
def nbS (b : Int) : Int := if b < 0 then b else 0
def pbS (b : Int) : Int := if b < 0 then 0 else b
def OdR (R : Int → Int) (a c : Int) : Prop := (∀ w, 0 ≤ R w) ∧ (∀ w, R w ≠ 0 → a ≤ w ∧ w ≤ c) ∧ sZ (fun k => R (k - 600)) 1200 = 1000000000
theorem sZ_term {f : Int → Int} : ∀ {n : Nat} {k : Int}, (∀ i, 0 ≤ f i) → 0 ≤ k → k < n → f k ≤ sZ f n
  | 0, k, _, h0, h1 => by omega
  | n + 1, k, h, h0, h1 => by
    rw [sZ]
    by_cases e : k = n
    · subst e
      have := sZ_nonneg (g := f) (n := n) (fun i _ _ => h i)
      omega
    · have := sZ_term (f := f) (n := n) h h0 (by omega)
      have := h n
      omega
theorem OdR.le {R : Int → Int} {a c : Int} (h : OdR R a c) (ha : -432 ≤ a) (hc : c ≤ 432) (w : Int) : 0 ≤ R w ∧ R w ≤ 1000000000 := by
  obtain ⟨h1, h2, h3⟩ := h
  refine ⟨h1 w, ?_⟩
  by_cases e : R w = 0
  · rw [e]
    decide
  · have := h2 w e
    have t := sZ_term (f := fun k => R (k - 600)) (n := 1200) (k := w + 600) (fun i => h1 _) (by omega) (by omega)
    rw [h3] at t
    have t : R (w + 600 - 600) ≤ 1000000000 := t
    rwa [show w + 600 - 600 = w by omega] at t
theorem OdR.out {R : Int → Int} {a c : Int} (h : OdR R a c) {w : Int} (hw : w < a ∨ c < w) : R w = 0 := by
  by_cases e : R w = 0
  · exact e
  · have := h.2.1 w e
    omega
theorem sZ_shift (G : Int → Int) (c : Nat) : ∀ n : Nat, sZ (fun k => G (k + c)) n = sZ G (n + c) - sZ G c
  | 0 => by
    rw [sZ, Nat.zero_add]
    omega
  | n + 1 => by
    rw [sZ, sZ_shift G c n, show n + 1 + c = (n + c) + 1 by omega, sZ]
    have e : G ((n : Int) + (c : Int)) = G ((n + c : Nat) : Int) := by
      congr 1
    rw [e]
    omega
theorem sZ_move {G : Int → Int} {b : Int} (h : ∀ k, G k ≠ 0 → 100 ≤ k ∧ k < 1100) (b0 : -100 ≤ b) (b1 : b ≤ 100) : sZ (fun k => G (k - b)) 1200 = sZ G 1200 := by
  have z : ∀ k, (k < 100 ∨ 1100 ≤ k) → G k = 0 := fun k hk => by
    by_cases e : G k = 0
    · exact e
    · have := h k e
      omega
  by_cases hb : b ≤ 0
  · obtain ⟨c, hc⟩ : ∃ c : Nat, (c : Int) = -b := ⟨(-b).toNat, by omega⟩
    have e1 : sZ (fun k => G (k - b)) 1200 = sZ (fun k => G (k + c)) 1200 := sZ_congr (fun k _ _ => by
      show G (k - b) = G (k + c)
      congr 1
      omega)
    rw [e1, sZ_shift G c 1200, sZ_more (g := G) (n := 1200) (m := 1200 + c) (by omega) (fun i i0 i1 => z i (by omega)), sZ_zero (g := G) (n := c) (fun i i0 i1 => z i (by omega))]
    omega
  · obtain ⟨c, hc⟩ : ∃ c : Nat, (c : Int) = b := ⟨b.toNat, by omega⟩
    have e1 : sZ G 1200 = sZ (fun k => (fun k => G (k - b)) (k + c)) 1200 := sZ_congr (fun k _ _ => by
      show G k = G (k + c - b)
      congr 1
      omega)
    rw [e1, sZ_shift (fun k => G (k - b)) c 1200, sZ_more (g := fun k => G (k - b)) (n := 1200) (m := 1200 + c) (by omega) (fun i i0 i1 => z _ (by omega)), sZ_zero (g := fun k => G (k - b)) (n := c) (fun i i0 i1 => z _ (by omega))]
    omega
theorem OdR.step {R : Int → Int} {a c q b : Int} (h : OdR R a c) (q0 : 0 ≤ q) (q1 : q ≤ 100) (b0 : -9 ≤ b) (b1 : b ≤ 9) (ha : -432 ≤ a) (hc : c ≤ 432) : OdR (odN q b R) (a + nbS b) (c + pbS b) := by
  have out := fun w hw => h.out (w := w) hw
  obtain ⟨h1, h2, h3⟩ := h
  refine ⟨fun w => ?_, fun w hw => ?_, ?_⟩
  · have m1 := mv_R q0 q1 (h1 w)
    have m2 := mv_R q0 q1 (h1 (w - b))
    unfold odN
    omega
  · unfold odN at hw
    by_cases e1 : R w = 0
    · by_cases e2 : R (w - b) = 0
      · rw [e1, e2, mv_0] at hw
        exact absurd rfl hw
      · have := h2 _ e2
        unfold nbS pbS
        split <;> omega
    · have := h2 _ e1
      unfold nbS pbS
      split <;> omega
  · have e : sZ (fun k => odN q b R (k - 600)) 1200 = sZ (fun k => R (k - 600)) 1200 - sZ (fun k => mvS q (R (k - 600))) 1200 + sZ (fun k => (fun k => mvS q (R (k - 600))) (k - b)) 1200 := by
      rw [← sZ_sub, ← sZ_add]
      refine sZ_congr (fun k _ _ => ?_)
      show odN q b R (k - 600) = R (k - 600) - mvS q (R (k - 600)) + mvS q (R (k - b - 600))
      unfold odN
      rw [show k - 600 - b = k - b - 600 by omega]
    rw [e, sZ_move (G := fun k => mvS q (R (k - 600))) (b := b) (fun k hk => ?_) (by omega) (by omega), h3]
    · omega
    · by_cases z : R (k - 600) = 0
      · exact absurd (by show mvS q (R (k - 600)) = 0; rw [z, mv_0]) hk
      · have := h2 _ z
        omega
theorem nb_R (b : Int) : nbS b ≤ 0 ∧ 0 ≤ pbS b := by
  unfold nbS pbS
  split <;> omega
theorem odI_ok {R : Int → Int} {a c q b : Int} (h : OdR R a c) (q0 : 0 ≤ q) (q1 : q ≤ 100) (b0 : -9 ≤ b) (b1 : b ≤ 9) : ∀ k : Nat, -432 ≤ a + k * nbS b → c + k * pbS b ≤ 432 → OdR (odI q b R k) (a + k * nbS b) (c + k * pbS b)
  | 0, ha, hc => by
    show OdR R (a + ((0 : Nat) : Int) * nbS b) (c + ((0 : Nat) : Int) * pbS b)
    rw [show a + ((0 : Nat) : Int) * nbS b = a by simp, show c + ((0 : Nat) : Int) * pbS b = c by simp]
    exact h
  | k + 1, ha, hc => by
    have nb := nb_R b
    have e1 : ((k + 1 : Nat) : Int) * nbS b = k * nbS b + nbS b := by
      rw [show ((k + 1 : Nat) : Int) = (k : Int) + 1 from rfl, Int.add_mul, Int.one_mul]
    have e2 : ((k + 1 : Nat) : Int) * pbS b = k * pbS b + pbS b := by
      rw [show ((k + 1 : Nat) : Int) = (k : Int) + 1 from rfl, Int.add_mul, Int.one_mul]
    rw [e1] at ha ⊢
    rw [e2] at hc ⊢
    have := (odI_ok h q0 q1 b0 b1 k (by omega) (by omega)).step q0 q1 b0 b1 (by omega) (by omega)
    rw [← Int.add_assoc, ← Int.add_assoc]
    exact this
/-! of a person: his facts one after the other -/
theorem hdS_6 {A : LA} (h : LAok A) (S : HA) {f : Int} (f0 : 0 ≤ f) (f1 : f < A 1 0) : 0 ≤ hdS A S f ∧ hdS A S f ≤ 6 := by
  have h0 := h.1
  have a6 := (h.2.2.2.2.2.2.1 f f0 f1).1
  refine ⟨(hdS_R h S f).1, ?_⟩
  have e := sZ_le (f := fun p => zi (decide (p ≠ A 6 f ∧ S 0 p f ≠ -1))) (g := fun p => if p = A 6 f then 0 else 1) (n := (A 0 0).toNat) (fun i _ _ => by
    show zi (decide (i ≠ A 6 f ∧ S 0 i f ≠ -1)) ≤ if i = A 6 f then 0 else 1
    by_cases e : i = A 6 f
    · rw [if_pos e, decide_eq_false (fun z => z.1 e)]
      decide
    · rw [if_neg e]
      exact (zi_01 _).2)
  have d := sZ_diff (f := fun p => if p = A 6 f then 0 else 1) (g := fun _ => 1) (q := A 6 f) (n := (A 0 0).toNat) a6.1 (by omega) (fun i _ _ hi => if_neg hi)
  rw [sZ_const] at d
  have d : sZ (fun p => if p = A 6 f then 0 else 1) (A 0 0).toNat = ((A 0 0).toNat : Int) * 1 + ((if A 6 f = A 6 f then 0 else 1) - 1) := d
  rw [if_pos rfl] at d
  unfold hdS
  omega
theorem vlS_54 {A : LA} (h : LAok A) (S : HA) (p : Int) {f : Int} (f0 : 0 ≤ f) (f1 : f < A 1 0) : 0 ≤ vlS A S p f ∧ vlS A S p f ≤ 54 := by
  unfold vlS
  have h2 := hdS_6 h S f0 f1
  have h3 := (h.2.2.2.2.2.2.1 f f0 f1).2.1
  split
  · have e1 : 0 ≤ A 7 f * hdS A S f := Int.mul_nonneg (by omega) h2.1
    have e2 : A 7 f * hdS A S f ≤ 9 * 6 := Int.mul_le_mul h3.2 h2.2 h2.1 (by decide)
    omega
  · omega
def trS (A : LA) (S : HA) (p : Int) (i : Nat) : Int := sZ (fun f => if A 8 f = 1 then 0 else vlS A S p f) i
def lsS (A : LA) (S : HA) (p : Int) (i : Nat) : Int := sZ (fun f => if A 8 f = 1 then vlS A S p f else 0) i
theorem wt_split (A : LA) (S : HA) (p : Int) : wtS A S p = trS A S p (A 1 0).toNat - lsS A S p (A 1 0).toNat := by
  unfold wtS trS lsS
  rw [← sZ_sub]
  refine sZ_congr (fun f _ _ => ?_)
  show (if A 8 f = 1 then -vlS A S p f else vlS A S p f) = (if A 8 f = 1 then 0 else vlS A S p f) - (if A 8 f = 1 then vlS A S p f else 0)
  split <;> omega
theorem tl_mono {A : LA} (h : LAok A) (S : HA) (p : Int) : ∀ (d i : Nat), i + d = (A 1 0).toNat → trS A S p i ≤ trS A S p (A 1 0).toNat ∧ lsS A S p i ≤ lsS A S p (A 1 0).toNat
  | 0, i, hi => by
    rw [show i = (A 1 0).toNat by omega]
    exact ⟨Int.le_refl _, Int.le_refl _⟩
  | d + 1, i, hi => by
    have ih := tl_mono h S p d (i + 1) (by omega)
    have v := vlS_54 h S p (f := i) (by omega) (by omega)
    have e1 : trS A S p (i + 1) = trS A S p i + (if A 8 i = 1 then 0 else vlS A S p i) := rfl
    have e2 : lsS A S p (i + 1) = lsS A S p i + (if A 8 i = 1 then vlS A S p i else 0) := rfl
    rw [e1, e2] at ih
    have g1 : 0 ≤ (if A 8 i = 1 then 0 else vlS A S p i) := by split <;> omega
    have g2 : 0 ≤ (if A 8 i = 1 then vlS A S p i else 0) := by split <;> omega
    omega
theorem tl_R {A : LA} (h : LAok A) (S : HA) (p : Int) : ∀ i : Nat, i ≤ (A 1 0).toNat → 0 ≤ trS A S p i ∧ 0 ≤ lsS A S p i ∧ trS A S p i + lsS A S p i ≤ 54 * i
  | 0, _ => by
    rw [trS, lsS, sZ, sZ]
    decide
  | i + 1, hi => by
    have ih := tl_R h S p i (by omega)
    have v := vlS_54 h S p (f := i) (by omega) (by omega)
    have e1 : trS A S p (i + 1) = trS A S p i + (if A 8 i = 1 then 0 else vlS A S p i) := rfl
    have e2 : lsS A S p (i + 1) = lsS A S p i + (if A 8 i = 1 then vlS A S p i else 0) := rfl
    rw [e1, e2]
    split <;> omega
def cnS (A : LA) (S : HA) (p f : Int) : Int := if A 6 f = p then hdS A S f else 0
def odP (A : LA) (S : HA) (p q : Int) : Nat → Int → Int
  | 0 => fun w => if w = wtS A S p then 1000000000 else 0
  | i + 1 => odI q (-plS A i) (odP A S p q i) (cnS A S p i).toNat
theorem cn_R {A : LA} (h : LAok A) (S : HA) (p : Int) {f : Int} (f0 : 0 ≤ f) (f1 : f < A 1 0) : 0 ≤ cnS A S p f ∧ cnS A S p f ≤ 6 := by
  have := hdS_6 h S f0 f1
  unfold cnS
  split <;> omega
theorem pl_9 {A : LA} (h : LAok A) {f : Int} (f0 : 0 ≤ f) (f1 : f < A 1 0) : (A 8 f = 1 → plS A f = -A 7 f) ∧ (¬ A 8 f = 1 → plS A f = A 7 f) ∧ 1 ≤ A 7 f ∧ A 7 f ≤ 9 := by
  have h3 := (h.2.2.2.2.2.2.1 f f0 f1).2.1
  unfold plS
  exact ⟨fun e => if_pos e, fun e => if_neg e, h3.1, h3.2⟩
theorem cn_nb {A : LA} (h : LAok A) (S : HA) (p : Int) {f : Int} (f0 : 0 ≤ f) (f1 : f < A 1 0) : cnS A S p f * nbS (-plS A f) = -(if A 8 f = 1 then 0 else vlS A S p f) ∧ cnS A S p f * pbS (-plS A f) = (if A 8 f = 1 then vlS A S p f else 0) := by
  obtain ⟨l1, l2, l3, l4⟩ := pl_9 h f0 f1
  have nn : ∀ g : Int, 1 ≤ g → nbS g = 0 ∧ pbS g = g := fun g hg => by
    unfold nbS pbS
    rw [if_neg (by omega), if_neg (by omega)]
    exact ⟨rfl, rfl⟩
  have np : ∀ g : Int, 1 ≤ g → nbS (-g) = -g ∧ pbS (-g) = 0 := fun g hg => by
    unfold nbS pbS
    rw [if_pos (by omega), if_pos (by omega)]
    exact ⟨rfl, rfl⟩
  unfold cnS vlS
  by_cases e : A 8 f = 1
  · rw [l1 e, if_pos e, if_pos e, Int.neg_neg, (nn _ l3).1, (nn _ l3).2]
    by_cases e2 : A 6 f = p
    · rw [if_pos e2, if_pos e2, Int.mul_comm (A 7 f)]
      exact ⟨by simp, rfl⟩
    · rw [if_neg e2, if_neg e2]
      exact ⟨by simp, by simp⟩
  · rw [l2 e, if_neg e, if_neg e, (np _ l3).1, (np _ l3).2]
    by_cases e2 : A 6 f = p
    · rw [if_pos e2, if_pos e2, Int.mul_comm (A 7 f), Int.mul_neg]
      exact ⟨rfl, by simp⟩
    · rw [if_neg e2, if_neg e2]
      exact ⟨by simp, by simp⟩
theorem mono_k {n k c : Int} (h0 : 0 ≤ k) (h1 : k ≤ c) (hn : n ≤ 0) : c * n ≤ k * n ∧ k * n ≤ 0 := by
  have h := Int.mul_le_mul_of_nonneg_right h1 (show 0 ≤ -n by omega)
  have h2 := Int.mul_nonneg h0 (show 0 ≤ -n by omega)
  rw [Int.mul_neg] at h h2
  rw [Int.mul_neg] at h
  omega
theorem mono_p {n k c : Int} (h0 : 0 ≤ k) (h1 : k ≤ c) (hn : 0 ≤ n) : k * n ≤ c * n ∧ 0 ≤ k * n :=
  ⟨Int.mul_le_mul_of_nonneg_right h1 hn, Int.mul_nonneg h0 hn⟩
/-- where the weights lie while the i-th fact is told of k heads -/
def aoS (A : LA) (S : HA) (p : Int) (i : Nat) (k : Int) : Int := wtS A S p - trS A S p i + k * nbS (-plS A i)
def coS (A : LA) (S : HA) (p : Int) (i : Nat) (k : Int) : Int := wtS A S p + lsS A S p i + k * pbS (-plS A i)
theorem ao_s {A : LA} (h : LAok A) (S : HA) (p : Int) {i : Nat} (hi : i < (A 1 0).toNat) : aoS A S p (i + 1) 0 = aoS A S p i (cnS A S p i) ∧ coS A S p (i + 1) 0 = coS A S p i (cnS A S p i) := by
  obtain ⟨e1, e2⟩ := cn_nb h S p (f := i) (by omega) (by omega)
  have t1 : trS A S p (i + 1) = trS A S p i + (if A 8 i = 1 then 0 else vlS A S p i) := rfl
  have t2 : lsS A S p (i + 1) = lsS A S p i + (if A 8 i = 1 then vlS A S p i else 0) := rfl
  unfold aoS coS
  rw [e1, e2, t1, t2, Int.zero_mul, Int.zero_mul]
  omega
theorem ao_R {A : LA} (h : LAok A) (S : HA) (p : Int) {i : Nat} (hi : i < (A 1 0).toNat) {k : Int} (k0 : 0 ≤ k) (k1 : k ≤ cnS A S p i) : -lsS A S p (A 1 0).toNat ≤ aoS A S p i k ∧ coS A S p i k ≤ trS A S p (A 1 0).toNat ∧ aoS A S p i k ≤ coS A S p i k := by
  obtain ⟨e1, e2⟩ := ao_s h S p hi
  have nb := nb_R (-plS A i)
  have m1 := mono_k k0 k1 nb.1
  have m2 := mono_p k0 k1 nb.2
  have w := wt_split A S p
  have mo := tl_mono h S p ((A 1 0).toNat - (i + 1)) (i + 1) (by omega)
  have rr := tl_R h S p i (by omega)
  unfold aoS coS at *
  rw [Int.zero_mul] at e1 e2
  omega
theorem lo_R {A : LA} (h : LAok A) (S : HA) (p : Int) : 0 ≤ trS A S p (A 1 0).toNat ∧ 0 ≤ lsS A S p (A 1 0).toNat ∧ trS A S p (A 1 0).toNat + lsS A S p (A 1 0).toNat ≤ 432 := by
  have n1 := h.2.1
  have := tl_R h S p (A 1 0).toNat (Nat.le_refl _)
  omega
theorem odP_0 {A : LA} (h : LAok A) (S : HA) (p q : Int) : OdR (odP A S p q 0) (wtS A S p) (wtS A S p) := by
  have w := wt_split A S p
  have l := lo_R h S p
  refine ⟨fun x => ?_, fun x hx => ?_, ?_⟩
  · show 0 ≤ if x = wtS A S p then 1000000000 else 0
    split <;> decide
  · have hx : (if x = wtS A S p then 1000000000 else 0) ≠ (0 : Int) := hx
    by_cases e : x = wtS A S p
    · omega
    · rw [if_neg e] at hx
      exact absurd rfl hx
  · have d := sZ_diff (f := fun k => odP A S p q 0 (k - 600)) (g := fun _ => 0) (q := wtS A S p + 600) (n := 1200) (by omega) (by omega) (fun i _ _ hi => if_neg (by omega))
    rw [d, sZ_const]
    show ((1200 : Nat) : Int) * 0 + ((if wtS A S p + 600 - 600 = wtS A S p then 1000000000 else 0) - 0) = 1000000000
    rw [if_pos (by omega)]
    rfl
theorem odP_ok {A : LA} (h : LAok A) (S : HA) {p q : Int} (q0 : 0 ≤ q) (q1 : q ≤ 100) : ∀ i : Nat, i ≤ (A 1 0).toNat → OdR (odP A S p q i) (wtS A S p - trS A S p i) (wtS A S p + lsS A S p i) ∧ (i < (A 1 0).toNat → ∀ k : Nat, (k : Int) ≤ cnS A S p i → OdR (odI q (-plS A i) (odP A S p q i) k) (aoS A S p i k) (coS A S p i k)) := by
  have l := lo_R h S p
  have step : ∀ i : Nat, i < (A 1 0).toNat → OdR (odP A S p q i) (wtS A S p - trS A S p i) (wtS A S p + lsS A S p i) → ∀ k : Nat, (k : Int) ≤ cnS A S p i → OdR (odI q (-plS A i) (odP A S p q i) k) (aoS A S p i k) (coS A S p i k) := by
    intro i hi ho k hk
    obtain ⟨l1, l2, l3, l4⟩ := pl_9 h (f := i) (by omega) (by omega)
    have r := ao_R h S p hi (k := k) (by omega) hk
    have pr : -9 ≤ plS A i ∧ plS A i ≤ 9 := by
      by_cases e : A 8 i = 1
      · rw [l1 e]
        omega
      · rw [l2 e]
        omega
    unfold aoS coS at r
    exact odI_ok ho q0 q1 (by omega) (by omega) k (by omega) (by omega)
  intro i
  induction i with
  | zero =>
    intro hi
    have o : OdR (odP A S p q 0) (wtS A S p - trS A S p 0) (wtS A S p + lsS A S p 0) := by
      have e1 : trS A S p 0 = 0 := rfl
      have e2 : lsS A S p 0 = 0 := rfl
      rw [e1, e2, Int.sub_zero, Int.add_zero]
      exact odP_0 h S p q
    exact ⟨o, fun hi => step 0 hi o⟩
  | succ i ih =>
    intro hi
    have c := cn_R h S p (f := i) (by omega) (by omega)
    have o := (ih (by omega)).2 (by omega) (cnS A S p i).toNat (by omega)
    rw [show (((cnS A S p i).toNat : Nat) : Int) = cnS A S p i by omega, ← (ao_s h S p (i := i) (by omega)).1, ← (ao_s h S p (i := i) (by omega)).2] at o
    unfold aoS coS at o
    rw [Int.zero_mul, Int.zero_mul, Int.add_zero, Int.add_zero] at o
    exact ⟨o, fun hi => step (i + 1) hi o⟩
def odA (R : Int → Int) (br : Int) : Int := sZ (fun k => if k - 600 ≤ br then R (k - 600) else 0) 1200
theorem odA_R {R : Int → Int} {a c : Int} (h : OdR R a c) (br : Int) : 0 ≤ odA R br ∧ odA R br ≤ 1000000000 := by
  obtain ⟨h1, h2, h3⟩ := h
  unfold odA
  refine ⟨sZ_nonneg (fun k _ _ => ?_), ?_⟩
  · show 0 ≤ if k - 600 ≤ br then R (k - 600) else 0
    have := h1 (k - 600)
    split <;> omega
  · rw [← h3]
    refine sZ_le (fun k _ _ => ?_)
    show (if k - 600 ≤ br then R (k - 600) else 0) ≤ R (k - 600)
    have := h1 (k - 600)
    split <;> omega
