/-! MATHEMATICS of sums, greatest and least values -/
theorem zsum_mono {f g : Int → Int} : ∀ n : Nat, (∀ i : Int, 0 ≤ i → i < n → f i ≤ g i) → zsum n f ≤ zsum n g := by
  intro n
  induction n with
  | zero => intro _; exact Int.le_refl _
  | succ n ih =>
    intro h
    have h1 := ih (fun i h1 h2 => h i h1 (by omega))
    have h2 := h n (by omega) (by omega)
    simp only [zsum]
    omega
theorem zsum_congr {f g : Int → Int} (n : Nat) (h : ∀ i : Int, 0 ≤ i → i < n → f i = g i) : zsum n f = zsum n g :=
  Int.le_antisymm (zsum_mono n fun i h1 h2 => Int.le_of_eq (h i h1 h2)) (zsum_mono n fun i h1 h2 => Int.le_of_eq (h i h1 h2).symm)
theorem zsum_add {f g : Int → Int} : ∀ n : Nat, zsum n (fun i => f i + g i) = zsum n f + zsum n g := by
  intro n
  induction n with
  | zero => rfl
  | succ n ih => simp only [zsum]; omega
theorem zsum_zero {f : Int → Int} (n : Nat) (h : ∀ i : Int, 0 ≤ i → i < n → f i = 0) : zsum n f = 0 := by
  rw [zsum_congr (g := fun _ => 0) n h]
  clear h
  induction n with
  | zero => rfl
  | succ n ih => simp only [zsum]; omega
theorem zsum_bd {C : Int} {f : Int → Int} : ∀ n : Nat, (∀ i : Int, 0 ≤ i → i < n → -C ≤ f i ∧ f i ≤ C) → -(C * n) ≤ zsum n f ∧ zsum n f ≤ C * n := by
  intro n
  induction n with
  | zero => intro _; simp [zsum]
  | succ n ih =>
    intro h
    have h1 := ih (fun i h1 h2 => h i h1 (by omega))
    have h2 := h n (by omega) (by omega)
    simp only [zsum]
    have e : C * ((n + 1 : Nat) : Int) = C * n + C := by rw [Int.natCast_add, Int.mul_add]; simp
    omega
theorem zsum_nn {f : Int → Int} (n : Nat) (h : ∀ i : Int, 0 ≤ i → i < n → 0 ≤ f i) : 0 ≤ zsum n f := by
  have := zsum_mono (f := fun _ => 0) (g := f) n h
  rw [zsum_zero n (fun _ _ _ => rfl)] at this
  exact this
theorem zsum_mulr {f : Int → Int} (c : Int) : ∀ n : Nat, zsum n (fun i => f i * c) = zsum n f * c := by
  intro n
  induction n with
  | zero => simp [zsum]
  | succ n ih => simp only [zsum]; rw [ih, Int.add_mul]
theorem zsum_mull {f : Int → Int} (c : Int) : ∀ n : Nat, zsum n (fun i => c * f i) = c * zsum n f := by
  intro n
  induction n with
  | zero => simp [zsum]
  | succ n ih => simp only [zsum]; rw [ih, Int.mul_add]
theorem zsum_swap {f : Int → Int → Int} (m : Nat) : ∀ n : Nat, zsum n (fun i => zsum m (fun j => f i j)) = zsum m (fun j => zsum n (fun i => f i j)) := by
  intro n
  induction n with
  | zero => simp only [zsum]; exact (zsum_zero m (fun _ _ _ => rfl)).symm
  | succ n ih => simp only [zsum]; rw [ih, ← zsum_add]
theorem zsum_cat {f : Int → Int} (a : Nat) : ∀ b : Nat, zsum (a + b) f = zsum a f + zsum b (fun i => f (a + i)) := by
  intro b
  induction b with
  | zero => simp [zsum]
  | succ b ih =>
    have e : a + (b + 1) = (a + b) + 1 := rfl
    have e2 : ((a + b : Nat) : Int) = a + b := by omega
    rw [e, zsum, ih, zsum, e2]
    omega
/-- a row of lines of the same length -/
theorem zsum_lines {f : Int → Int} (w : Nat) : ∀ n : Nat, zsum (n * w) f = zsum n (fun i => zsum w (fun j => f (i * w + j))) := by
  intro n
  induction n with
  | zero => simp [zsum]
  | succ n ih =>
    have e : (n + 1) * w = n * w + w := Nat.succ_mul n w
    have e2 : ((n * w : Nat) : Int) = (n : Int) * w := by simp
    rw [e, zsum_cat, ih, zsum, e2]
/-- the greatest and the least of the values at 0 to n -/
def zhi : Nat → (Int → Int) → Int
  | 0, h => h 0
  | n + 1, h => zmax (zhi n h) (h (n + 1))
def zlo : Nat → (Int → Int) → Int
  | 0, h => h 0
  | n + 1, h => zmin (zlo n h) (h (n + 1))
theorem zmax_l (a b : Int) : a ≤ zmax a b := by unfold zmax; split <;> omega
theorem zmax_r (a b : Int) : b ≤ zmax a b := by unfold zmax; split <;> omega
theorem zmax_c (a b : Int) : zmax a b = a ∨ zmax a b = b := by unfold zmax; split <;> simp
theorem zmin_l (a b : Int) : zmin a b ≤ a := by unfold zmin; split <;> omega
theorem zmin_r (a b : Int) : zmin a b ≤ b := by unfold zmin; split <;> omega
theorem zmin_c (a b : Int) : zmin a b = a ∨ zmin a b = b := by unfold zmin; split <;> simp
theorem zhi_le {h : Int → Int} : ∀ (n : Nat) (j : Int), 0 ≤ j → j ≤ n → h j ≤ zhi n h := by
  intro n
  induction n with
  | zero =>
    intro j h1 h2
    have e : j = 0 := by omega
    subst e; exact Int.le_refl _
  | succ n ih =>
    intro j h1 h2
    rcases (show j ≤ n ∨ j = n + 1 by omega) with q | q
    · exact Int.le_trans (ih j h1 q) (zmax_l _ _)
    · subst q; exact zmax_r _ _
theorem zhi_at {h : Int → Int} : ∀ n : Nat, ∃ j : Int, 0 ≤ j ∧ j ≤ n ∧ zhi n h = h j := by
  intro n
  induction n with
  | zero => exact ⟨0, by omega, by omega, rfl⟩
  | succ n ih =>
    obtain ⟨j, h1, h2, h3⟩ := ih
    rcases zmax_c (zhi n h) (h (n + 1)) with q | q
    · exact ⟨j, h1, by omega, by rw [zhi, q, h3]⟩
    · exact ⟨n + 1, by omega, by omega, by rw [zhi, q]⟩
theorem zlo_le {h : Int → Int} : ∀ (n : Nat) (j : Int), 0 ≤ j → j ≤ n → zlo n h ≤ h j := by
  intro n
  induction n with
  | zero =>
    intro j h1 h2
    have e : j = 0 := by omega
    subst e; exact Int.le_refl _
  | succ n ih =>
    intro j h1 h2
    rcases (show j ≤ n ∨ j = n + 1 by omega) with q | q
    · exact Int.le_trans (zmin_l _ _) (ih j h1 q)
    · subst q; exact zmin_r _ _
theorem zlo_at {h : Int → Int} : ∀ n : Nat, ∃ j : Int, 0 ≤ j ∧ j ≤ n ∧ zlo n h = h j := by
  intro n
  induction n with
  | zero => exact ⟨0, by omega, by omega, rfl⟩
  | succ n ih =>
    obtain ⟨j, h1, h2, h3⟩ := ih
    rcases zmin_c (zlo n h) (h (n + 1)) with q | q
    · exact ⟨j, h1, by omega, by rw [zlo, q, h3]⟩
    · exact ⟨n + 1, by omega, by omega, by rw [zlo, q]⟩
theorem zhi_mono {h k : Int → Int} (n : Nat) (e : ∀ j : Int, 0 ≤ j → j ≤ n → h j ≤ k j) : zhi n h ≤ zhi n k := by
  obtain ⟨j, h1, h2, h3⟩ := zhi_at (h := h) n
  rw [h3]
  exact Int.le_trans (e j h1 h2) (zhi_le n j h1 h2)
theorem zhi_congr {h k : Int → Int} (n : Nat) (e : ∀ j : Int, 0 ≤ j → j ≤ n → h j = k j) : zhi n h = zhi n k :=
  Int.le_antisymm (zhi_mono n fun j h1 h2 => Int.le_of_eq (e j h1 h2)) (zhi_mono n fun j h1 h2 => Int.le_of_eq (e j h1 h2).symm)
theorem zlo_mono {h k : Int → Int} (n : Nat) (e : ∀ j : Int, 0 ≤ j → j ≤ n → h j ≤ k j) : zlo n h ≤ zlo n k := by
  obtain ⟨j, h1, h2, h3⟩ := zlo_at (h := k) n
  rw [h3]
  exact Int.le_trans (zlo_le n j h1 h2) (e j h1 h2)
theorem zlo_congr {h k : Int → Int} (n : Nat) (e : ∀ j : Int, 0 ≤ j → j ≤ n → h j = k j) : zlo n h = zlo n k :=
  Int.le_antisymm (zlo_mono n fun j h1 h2 => Int.le_of_eq (e j h1 h2)) (zlo_mono n fun j h1 h2 => Int.le_of_eq (e j h1 h2).symm)
theorem zhi_1 {i : Int} (h : 0 ≤ i) (f : Int → Int) : zhi (i + 1).toNat f = zmax (zhi i.toNat f) (f (i + 1)) := by
  have e : (i + 1).toNat = i.toNat + 1 := by omega
  rw [e, zhi]
  congr 2
  omega
theorem zlo_1 {i : Int} (h : 0 ≤ i) (f : Int → Int) : zlo (i + 1).toNat f = zmin (zlo i.toNat f) (f (i + 1)) := by
  have e : (i + 1).toNat = i.toNat + 1 := by omega
  rw [e, zlo]
  congr 2
  omega
theorem zhi_bd {C : Int} {f : Int → Int} (n : Nat) (h : ∀ i : Int, 0 ≤ i → i ≤ n → -C ≤ f i ∧ f i ≤ C) : -C ≤ zhi n f ∧ zhi n f ≤ C := by
  obtain ⟨j, h1, h2, h3⟩ := zhi_at (h := f) n
  rw [h3]; exact h j h1 h2
theorem zlo_bd {C : Int} {f : Int → Int} (n : Nat) (h : ∀ i : Int, 0 ≤ i → i ≤ n → -C ≤ f i ∧ f i ≤ C) : -C ≤ zlo n f ∧ zlo n f ≤ C := by
  obtain ⟨j, h1, h2, h3⟩ := zlo_at (h := f) n
  rw [h3]; exact h j h1 h2
/-! TABLES: nq questions of na answers each; ng groups of nr replies; f q a i: what answer a to question q brings at place i = g * nr + r -/
def zS_ (f : Int → Int → Int → Int) (r : Int → Int) (n : Int) (i : Int) : Int := zsum n.toNat fun q => f q (r q) i
def tHi (nq nr : Int) (f : Int → Int → Int → Int) (r : Int → Int) (g : Int) : Int := zhi (nr - 1).toNat fun j => zS_ f r nq (g * nr + j)
def tLo (nq nr : Int) (f : Int → Int → Int → Int) (r : Int → Int) (g : Int) : Int := zlo (nr - 1).toNat fun j => zS_ f r nq (g * nr + j)
def tHigh (nq ng nr : Int) (f : Int → Int → Int → Int) (r : Int → Int) : Int := zsum ng.toNat fun g => tHi nq nr f r g
def tLow (nq ng nr : Int) (f : Int → Int → Int → Int) (r : Int → Int) : Int := zsum ng.toNat fun g => tLo nq nr f r g
/-- a row of answers -/
def zrw (nq na : Int) (r : Int → Int) : Prop := ∀ q, 0 ≤ q → q < nq → 0 ≤ r q ∧ r q < na
/-- the most over all rows -/
def isMost (nq na ng nr : Int) (f : Int → Int → Int → Int) (x : Int) : Prop := (∀ r, zrw nq na r → tHigh nq ng nr f r ≤ x) ∧ ∃ r, zrw nq na r ∧ tHigh nq ng nr f r = x
theorem isMost_eq {nq na ng nr : Int} {f : Int → Int → Int → Int} {x y : Int} (h : isMost nq na ng nr f x) (k : isMost nq na ng nr f y) : x = y := by
  obtain ⟨r, h1, h2⟩ := h.2
  obtain ⟨s, k1, k2⟩ := k.2
  have := h.1 s k1
  have := k.1 r h1
  omega
theorem zS_congr {f : Int → Int → Int → Int} {r s : Int → Int} {n : Int} (h : ∀ q, 0 ≤ q → q < n → r q = s q) (i : Int) : zS_ f r n i = zS_ f s n i := by
  unfold zS_
  exact zsum_congr _ (fun q h1 h2 => by rw [h q h1 (by omega)])
theorem tHigh_congr {nq ng nr : Int} {f : Int → Int → Int → Int} {r s : Int → Int} (h : ∀ q, 0 ≤ q → q < nq → r q = s q) : tHigh nq ng nr f r = tHigh nq ng nr f s := by
  unfold tHigh tHi
  congr 1; funext g; congr 1; funext j
  exact zS_congr h _
theorem tHigh_mono {nq ng nr : Int} {f : Int → Int → Int → Int} {r s : Int → Int} (h : ∀ i, 0 ≤ i → i < ng * nr → zS_ f r nq i ≤ zS_ f s nq i) (h1 : 1 ≤ nr) : tHigh nq ng nr f r ≤ tHigh nq ng nr f s := by
  unfold tHigh
  refine zsum_mono _ (fun g g1 g2 => ?_)
  unfold tHi
  refine zhi_mono _ (fun j j1 j2 => h _ ?_ ?_)
  · exact Int.add_nonneg (Int.mul_nonneg g1 (by omega)) j1
  · have h3 : (g + 1) * nr ≤ ng * nr := Int.mul_le_mul_of_nonneg_right (by omega) (by omega)
    rw [Int.add_mul] at h3
    omega
/-! the search -/
def tTop (na : Int) (f : Int → Int → Int → Int) (q i : Int) : Int := zhi (na - 1).toNat fun a => f q a i
def tHopeN (nq na : Int) (f : Int → Int → Int → Int) : Nat → Int → Int
  | 0, _ => 0
  | k + 1, i => tHopeN nq na f k i + tTop na f (nq - (k + 1)) i
def tHope (nq na : Int) (f : Int → Int → Int → Int) (n i : Int) : Int := tHopeN nq na f (nq - n).toNat i
theorem tHope_0 {nq na : Int} {f : Int → Int → Int → Int} (i : Int) : tHope nq na f nq i = 0 := by
  unfold tHope
  rw [Int.sub_self]
  rfl
theorem tHope_1 {nq na : Int} {f : Int → Int → Int → Int} {n : Int} (h : n < nq) (i : Int) : tHope nq na f n i = tHope nq na f (n + 1) i + tTop na f n i := by
  unfold tHope
  have e : (nq - n).toNat = (nq - (n + 1)).toNat + 1 := by omega
  rw [e, tHopeN]
  congr 2
  omega
theorem zS_1 {f : Int → Int → Int → Int} {r : Int → Int} {n : Int} (h : 0 ≤ n) (i : Int) : zS_ f r (n + 1) i = zS_ f r n i + f n (r n) i := zsum_1 h _
theorem tHope_ge {nq na : Int} {f : Int → Int → Int → Int} {r : Int → Int} (hr : zrw nq na r) (i : Int) : ∀ k : Nat, (k : Int) ≤ nq → zS_ f r nq i ≤ zS_ f r (nq - k) i + tHopeN nq na f k i := by
  intro k
  induction k with
  | zero =>
    intro _
    rw [show nq - ((0 : Nat) : Int) = nq by omega]
    simp only [tHopeN]
    omega
  | succ k ih =>
    intro h
    have h1 := ih (by omega)
    have h2 : zS_ f r (nq - k) i = zS_ f r (nq - (k + 1)) i + f (nq - (k + 1)) (r (nq - (k + 1))) i := by
      rw [← zS_1 (by omega)]
      congr 1
      omega
    have h3 := hr (nq - (k + 1)) (by omega) (by omega)
    have h4 : f (nq - (k + 1)) (r (nq - (k + 1))) i ≤ tTop na f (nq - (k + 1)) i := zhi_le (h := fun a => f (nq - (k + 1)) a i) _ _ h3.1 (by omega)
    rw [show nq - ((k + 1 : Nat) : Int) = nq - (k + 1) by omega]
    simp only [tHopeN]
    omega
def tHopeAt (nq na ng nr : Int) (f : Int → Int → Int → Int) (r : Int → Int) (n : Int) : Int := zsum ng.toNat fun g => zhi (nr - 1).toNat fun j => zS_ f r n (g * nr + j) + tHope nq na f n (g * nr + j)
theorem tHopeAt_ge {nq na ng nr : Int} {f : Int → Int → Int → Int} {r s : Int → Int} {n : Int} (hs : zrw nq na s) (h0 : 0 ≤ n) (hn : n ≤ nq) (e : ∀ q, 0 ≤ q → q < n → s q = r q) : tHigh nq ng nr f s ≤ tHopeAt nq na ng nr f r n := by
  unfold tHigh tHopeAt
  refine zsum_mono _ (fun g _ _ => ?_)
  unfold tHi
  refine zhi_mono _ (fun j _ _ => ?_)
  have h := tHope_ge (f := f) hs (g * nr + j) (nq - n).toNat (by omega)
  rw [show nq - (((nq - n).toNat : Nat) : Int) = n by omega, zS_congr e] at h
  exact h
theorem tHopeAt_full {nq na ng nr : Int} {f : Int → Int → Int → Int} {r : Int → Int} : tHopeAt nq na ng nr f r nq = tHigh nq ng nr f r := by
  unfold tHigh tHopeAt tHi
  congr 1; funext g; congr 1; funext j
  rw [tHope_0]
  omega
def zput (r : Int → Int) (n a : Int) : Int → Int := fun q => if q = n then a else r q
/-- M' is the most of M and all rows that go on from r's first n answers without needless ones (with an answer below a to question n) -/
def tRes (nq na ng nr : Int) (f : Int → Int → Int → Int) (N : Int → Int → Prop) (r : Int → Int) (n a M M' : Int) : Prop :=
  M ≤ M' ∧ (∀ s, zrw nq na s → (∀ q, 0 ≤ q → q < n → s q = r q) → (∀ q, n ≤ q → q < nq → ¬ N q (s q)) → s n < a → tHigh nq ng nr f s ≤ M') ∧ (M' = M ∨ ∃ s, zrw nq na s ∧ (∀ q, 0 ≤ q → q < n → s q = r q) ∧ tHigh nq ng nr f s = M')
theorem tRes_0 {nq na ng nr : Int} {f : Int → Int → Int → Int} {N : Int → Int → Prop} {r : Int → Int} {n M : Int} (h0 : 0 ≤ n) (hn : n < nq) : tRes nq na ng nr f N r n 0 M M :=
  ⟨Int.le_refl _, fun s h1 _ _ h4 => by have := (h1 n h0 hn).1; omega, Or.inl rfl⟩
theorem tRes_skip {nq na ng nr : Int} {f : Int → Int → Int → Int} {N : Int → Int → Prop} {r : Int → Int} {n a M M' : Int} (hn : n < nq) (hN : N n a) (h : tRes nq na ng nr f N r n a M M') : tRes nq na ng nr f N r n (a + 1) M M' :=
  ⟨h.1, fun s h1 h2 h3 h4 => h.2.1 s h1 h2 h3 (by
    have h5 := h3 n (Int.le_refl _) hn
    have : s n ≠ a := fun e => h5 (by rw [e]; exact hN)
    omega), h.2.2⟩
theorem zput_s {r s : Int → Int} {n a : Int} (h0 : 0 ≤ n) (h : ∀ q, 0 ≤ q → q < n → s q = r q) (e : s n = a) : ∀ q, 0 ≤ q → q < n + 1 → s q = zput r n a q := by
  intro q h1 h2
  unfold zput
  rcases (show q = n ∨ q < n by omega) with k | k
  · rw [if_pos k, k, e]
  · rw [if_neg (by omega), h q h1 k]
theorem tRes_prune {nq na ng nr : Int} {f : Int → Int → Int → Int} {N : Int → Int → Prop} {r : Int → Int} {n a M M' : Int} (h0 : 0 ≤ n) (hn : n < nq) (hh : tHopeAt nq na ng nr f (zput r n a) (n + 1) ≤ M') (h : tRes nq na ng nr f N r n a M M') : tRes nq na ng nr f N r n (a + 1) M M' :=
  ⟨h.1, fun s h1 h2 h3 h4 => by
    rcases (show s n < a ∨ s n = a by omega) with k | k
    · exact h.2.1 s h1 h2 h3 k
    · exact Int.le_trans (tHopeAt_ge h1 (by omega) (by omega) (zput_s h0 h2 k)) hh, h.2.2⟩
theorem tRes_leaf {nq na ng nr : Int} {f : Int → Int → Int → Int} {N : Int → Int → Prop} {r : Int → Int} {n a M M' : Int} (h0 : 0 ≤ n) (hn : n + 1 = nq) (ha : 0 ≤ a ∧ a < na) (hr : ∀ q, 0 ≤ q → q < n → 0 ≤ r q ∧ r q < na) (hh : M' < tHopeAt nq na ng nr f (zput r n a) (n + 1)) (h : tRes nq na ng nr f N r n a M M') : tRes nq na ng nr f N r n (a + 1) M (tHopeAt nq na ng nr f (zput r n a) (n + 1)) := by
  have e : tHopeAt nq na ng nr f (zput r n a) (n + 1) = tHigh nq ng nr f (zput r n a) := by rw [hn, tHopeAt_full]
  refine ⟨Int.le_trans h.1 (Int.le_of_lt hh), fun s h1 h2 h3 h4 => ?_, Or.inr ⟨zput r n a, fun q q1 q2 => ?_, fun q q1 q2 => ?_, e.symm⟩⟩
  · rcases (show s n < a ∨ s n = a by omega) with k | k
    · exact Int.le_trans (h.2.1 s h1 h2 h3 k) (Int.le_of_lt hh)
    · exact tHopeAt_ge h1 (by omega) (by omega) (zput_s h0 h2 k)
  · unfold zput
    split
    · exact ha
    · exact hr q q1 (by omega)
  · unfold zput
    rw [if_neg (by omega)]
theorem tRes_rec {nq na ng nr : Int} {f : Int → Int → Int → Int} {N : Int → Int → Prop} {r : Int → Int} {n a M M' M2 : Int} (h0 : 0 ≤ n) (hn : n + 1 < nq) (h : tRes nq na ng nr f N r n a M M') (k : tRes nq na ng nr f N (zput r n a) (n + 1) na M' M2) : tRes nq na ng nr f N r n (a + 1) M M2 := by
  refine ⟨Int.le_trans h.1 k.1, fun s h1 h2 h3 h4 => ?_, ?_⟩
  · rcases (show s n < a ∨ s n = a by omega) with q | q
    · exact Int.le_trans (h.2.1 s h1 h2 h3 q) k.1
    · exact k.2.1 s h1 (zput_s h0 h2 q) (fun q q1 q2 => h3 q (by omega) q2) (h1 (n + 1) (by omega) hn).2
  · rcases k.2.2 with e | ⟨s, s1, s2, s3⟩
    · rw [e]
      exact h.2.2
    · refine Or.inr ⟨s, s1, fun q q1 q2 => ?_, s3⟩
      rw [s2 q q1 (by omega)]
      unfold zput
      rw [if_neg (by omega)]
/-- what the marks of needless answers are, once all are set -/
theorem tMarks {na : Int} {F : Int → Prop} {C : Int → Int → Prop} (ht : ∀ a b c, C a b → C b c → C a c) (h : ∀ j, 0 ≤ j → j < na → F j → ∃ i, 0 ≤ i ∧ i < na ∧ i ≠ j ∧ C i j ∧ (j < i → ¬ F i)) : ∀ j, 0 ≤ j → j < na → F j → ∃ i, 0 ≤ i ∧ i < na ∧ C i j ∧ ¬ F i := by
  have key : ∀ (n : Nat) (j : Int), j < n → 0 ≤ j → j < na → F j → ∃ i, 0 ≤ i ∧ i < na ∧ C i j ∧ ¬ F i := by
    intro n
    induction n with
    | zero => intro j h1; omega
    | succ n ih =>
      intro j h1 h2 h3 h4
      obtain ⟨i, i1, i2, i3, i4, i5⟩ := h j h2 h3 h4
      rcases (show j < i ∨ i < j by omega) with q | q
      · exact ⟨i, i1, i2, i4, i5 q⟩
      · rcases Classical.em (F i) with e | e
        · obtain ⟨k, k1, k2, k3, k4⟩ := ih i (by omega) i1 i2 e
          exact ⟨k, k1, k2, ht k i j k3 i4, k4⟩
        · exact ⟨i, i1, i2, i4, e⟩
  exact fun j h1 h2 h3 => key (j + 1).toNat j (by omega) h1 h2 h3
theorem tNeed {nq na ng nr : Int} {f : Int → Int → Int → Int} {N : Int → Int → Prop} (h1 : 1 ≤ nr) (h : ∀ q, 0 ≤ q → q < nq → ∀ a, 0 ≤ a → a < na → N q a → ∃ b, 0 ≤ b ∧ b < na ∧ (∀ i, 0 ≤ i → i < ng * nr → f q a i ≤ f q b i) ∧ ¬ N q b) {r : Int → Int} (hr : zrw nq na r) : ∃ s, zrw nq na s ∧ (∀ q, 0 ≤ q → q < nq → ¬ N q (s q)) ∧ tHigh nq ng nr f r ≤ tHigh nq ng nr f s := by
  have key : ∀ q, ∃ b, 0 ≤ q → q < nq → (0 ≤ b ∧ b < na) ∧ (∀ i, 0 ≤ i → i < ng * nr → f q (r q) i ≤ f q b i) ∧ ¬ N q b := by
    intro q
    rcases Classical.em (0 ≤ q ∧ q < nq) with e | e
    · rcases Classical.em (N q (r q)) with k | k
      · obtain ⟨b, b1, b2, b3, b4⟩ := h q e.1 e.2 (r q) (hr q e.1 e.2).1 (hr q e.1 e.2).2 k
        exact ⟨b, fun _ _ => ⟨⟨b1, b2⟩, b3, b4⟩⟩
      · exact ⟨r q, fun _ _ => ⟨hr q e.1 e.2, fun i _ _ => Int.le_refl _, k⟩⟩
    · exact ⟨0, fun a b => absurd ⟨a, b⟩ e⟩
  obtain ⟨s, hs⟩ := Classical.axiomOfChoice key
  refine ⟨s, fun q q1 q2 => (hs q q1 q2).1, fun q q1 q2 => (hs q q1 q2).2.2, tHigh_mono (fun i i1 i2 => ?_) h1⟩
  unfold zS_
  exact zsum_mono _ (fun q q1 q2 => (hs q q1 (by omega)).2.1 i i1 i2)
