/-! WRITES: one number of a row, one cell of the heap; folds -/
def gup (G : GR) (k v : Int) : GR := fun j => if j = k then v else G j
theorem gup_at {G : GR} {k v : Int} : gup G k v k = v := if_pos rfl
theorem gup_off {G : GR} {k v j : Int} (h : j ≠ k) : gup G k v j = G j := if_neg h
theorem zup_at {m : ZM} {a i v : Int} : (zup m a i v) a = gup (m a) i v := by
  funext j
  unfold zup gup
  by_cases h : j = i <;> simp [h]
theorem zup_off {m : ZM} {a i v b : Int} (h : b ≠ a) : (zup m a i v) b = m b := by
  funext j
  unfold zup
  rw [if_neg (fun e => h e.1)]
def zfold {σ : Type} : Nat → (Int → σ → σ) → σ → σ
  | 0, _, s => s
  | n + 1, f, s => f n (zfold n f s)
theorem zfold_1 {σ : Type} {i : Int} (h : 0 ≤ i) (f : Int → σ → σ) (s : σ) : zfold (i + 1).toNat f s = f i (zfold i.toNat f s) := by
  have e : (i + 1).toNat = i.toNat + 1 := by omega
  rw [e, zfold]
  congr 1
  omega
theorem zfold_0 {σ : Type} (f : Int → σ → σ) (s : σ) : zfold (Int.toNat 0) f s = s := rfl
theorem zfold_P {σ : Type} {P : σ → Prop} {f : Int → σ → σ} : ∀ (n : Nat) (s : σ), P s → (∀ (i : Int) (s : σ), 0 ≤ i → i < n → P s → P (f i s)) → P (zfold n f s) := by
  intro n
  induction n with
  | zero => exact fun s h _ => h
  | succ n ih => exact fun s h hf => hf n _ (by omega) (by omega) (ih s h (fun i s h1 h2 => hf i s h1 (by omega)))
theorem gW_i {G : GR} {x y : Int} (h : 0 ≤ x ∧ x < 5 ∧ 0 ≤ y ∧ y < 5) : gW G x y = G (4 + (5 * x + y)) := if_pos h
theorem gV_i {G : GR} {x y a b : Int} (h : (0 ≤ x ∧ x < 5 ∧ 0 ≤ y ∧ y < 5) ∧ 0 ≤ a ∧ a < 4 ∧ 0 ≤ b ∧ b < 4) : gV G x y a b = G (29 + (4 * (4 * (5 * x + y) + a) + b)) := if_pos h
theorem gB_i {G : GR} {x y a b : Int} (h : (0 ≤ x ∧ x < 5 ∧ 0 ≤ y ∧ y < 5) ∧ 0 ≤ a ∧ a < 4 ∧ 0 ≤ b ∧ b < 4) : gB G x y a b = G (429 + (4 * (4 * (5 * x + y) + a) + b)) := if_pos h
theorem gW_gupV {G : GR} {k v x y : Int} (hk : 25 ≤ k) : gW (gup G (4 + k) v) x y = gW G x y := by
  unfold gW
  split
  · exact gup_off (by omega)
  · rfl
theorem gW_gupW {G : GR} {k v x y : Int} : gW (gup G (4 + k) v) x y = if (0 ≤ x ∧ x < 5 ∧ 0 ≤ y ∧ y < 5) ∧ 5 * x + y = k then v else gW G x y := by
  unfold gW
  by_cases h : 0 ≤ x ∧ x < 5 ∧ 0 ≤ y ∧ y < 5
  · rw [if_pos h, if_pos h]
    unfold gup
    by_cases e : 5 * x + y = k
    · rw [if_pos (by omega), if_pos ⟨h, e⟩]
    · rw [if_neg (by omega), if_neg (fun q => e q.2)]
  · rw [if_neg h, if_neg h, if_neg (fun q => h q.1)]
theorem gV_gupW {G : GR} {k v x y a b : Int} (hk : k < 25) : gV (gup G (4 + k) v) x y a b = gV G x y a b := by
  unfold gV
  split
  · exact gup_off (by omega)
  · rfl
theorem gB_gupW {G : GR} {k v x y a b : Int} (hk : k < 425) : gB (gup G (4 + k) v) x y a b = gB G x y a b := by
  unfold gB
  split
  · exact gup_off (by omega)
  · rfl
theorem gV_gupV {G : GR} {k v x y a b : Int} : gV (gup G (29 + k) v) x y a b = if ((0 ≤ x ∧ x < 5 ∧ 0 ≤ y ∧ y < 5) ∧ 0 ≤ a ∧ a < 4 ∧ 0 ≤ b ∧ b < 4) ∧ 4 * (4 * (5 * x + y) + a) + b = k then v else gV G x y a b := by
  unfold gV
  by_cases h : (0 ≤ x ∧ x < 5 ∧ 0 ≤ y ∧ y < 5) ∧ 0 ≤ a ∧ a < 4 ∧ 0 ≤ b ∧ b < 4
  · rw [if_pos h, if_pos h]
    unfold gup
    by_cases e : 4 * (4 * (5 * x + y) + a) + b = k
    · rw [if_pos (by omega), if_pos ⟨h, e⟩]
    · rw [if_neg (by omega), if_neg (fun q => e q.2)]
  · rw [if_neg h, if_neg h, if_neg (fun q => h q.1)]
theorem gB_gupB {G : GR} {k v x y a b : Int} : gB (gup G (429 + k) v) x y a b = if ((0 ≤ x ∧ x < 5 ∧ 0 ≤ y ∧ y < 5) ∧ 0 ≤ a ∧ a < 4 ∧ 0 ≤ b ∧ b < 4) ∧ 4 * (4 * (5 * x + y) + a) + b = k then v else gB G x y a b := by
  unfold gB
  by_cases h : (0 ≤ x ∧ x < 5 ∧ 0 ≤ y ∧ y < 5) ∧ 0 ≤ a ∧ a < 4 ∧ 0 ≤ b ∧ b < 4
  · rw [if_pos h, if_pos h]
    unfold gup
    by_cases e : 4 * (4 * (5 * x + y) + a) + b = k
    · rw [if_pos (by omega), if_pos ⟨h, e⟩]
    · rw [if_neg (by omega), if_neg (fun q => e q.2)]
  · rw [if_neg h, if_neg h, if_neg (fun q => h q.1)]
theorem gB_gupV {G : GR} {k v x y a b : Int} (hk : k < 400) : gB (gup G (29 + k) v) x y a b = gB G x y a b := by
  unfold gB
  split
  · exact gup_off (by omega)
  · rfl
theorem gV_gupB {G : GR} {k v x y a b : Int} (hk : 0 ≤ k) : gV (gup G (429 + k) v) x y a b = gV G x y a b := by
  unfold gV
  split
  · exact gup_off (by omega)
  · rfl
theorem gW_gupV2 {G : GR} {k v x y : Int} (hk : 0 ≤ k) : gW (gup G (29 + k) v) x y = gW G x y := by
  rw [show 29 + k = 4 + (25 + k) by omega]; exact gW_gupV (by omega)
theorem gW_gupB2 {G : GR} {k v x y : Int} (hk : 0 ≤ k) : gW (gup G (429 + k) v) x y = gW G x y := by
  rw [show 429 + k = 4 + (425 + k) by omega]; exact gW_gupV (by omega)
theorem GOK.up {G : GR} (h : GOK G) : G 0 ≤ 5 ∧ G 1 ≤ 5 ∧ G 2 ≤ 4 ∧ G 3 ≤ 4 := by have := h.1; omega
theorem CG.putV {kd : ZK} {m : ZM} {g : Int} {G : GR} (ho : GOK G) (h : CG kd m g G) {k v : Int} (hk : 0 ≤ k ∧ k < 400) : CG kd (zup m (g + 2) k v) g (gup G (29 + k) v) := by
  have hu := ho.up
  refine ⟨h.1.frame (zup_off (by omega)), ?_, ?_, ?_⟩
  · rw [zup_off (by omega), gup_off (by omega), gup_off (by omega), gup_off (by omega), gup_off (by omega)]; exact h.2.1
  · rw [gup_off (by omega), gup_off (by omega)]
    intro x y h1 h2 h3 h4
    rw [zup_off (by omega), gW_gupV2 hk.1]
    exact h.2.2.1 x y h1 h2 h3 h4
  · rw [gup_off (by omega), gup_off (by omega), gup_off (by omega), gup_off (by omega)]
    intro x y a b h1 h2 h3 h4 h5 h6 h7 h8
    have e := h.2.2.2 x y a b h1 h2 h3 h4 h5 h6 h7 h8
    rw [zup_at, zup_off (by omega), gV_gupV]
    constructor
    · by_cases q : 4 * (4 * (5 * x + y) + a) + b = k
      · rw [if_pos ⟨⟨⟨h1, by omega, h3, by omega⟩, h5, by omega, h7, by omega⟩, q⟩, ← q, show (x * 5 + y) * 16 + (a * 4 + b) = 4 * (4 * (5 * x + y) + a) + b by omega, gup_at]
      · rw [if_neg (fun z => q z.2), gup_off (by omega)]; exact e.1
    · rw [e.2]
      unfold gB
      split
      · exact (gup_off (by omega)).symm
      · rfl
theorem CG.putB {kd : ZK} {m : ZM} {g : Int} {G : GR} (ho : GOK G) (h : CG kd m g G) {k v : Int} (hk : 0 ≤ k) : CG kd (zup m (g + 3) k v) g (gup G (429 + k) v) := by
  have hu := ho.up
  refine ⟨h.1.frame (zup_off (by omega)), ?_, ?_, ?_⟩
  · rw [zup_off (by omega), gup_off (by omega), gup_off (by omega), gup_off (by omega), gup_off (by omega)]; exact h.2.1
  · rw [gup_off (by omega), gup_off (by omega)]
    intro x y h1 h2 h3 h4
    rw [zup_off (by omega), gW_gupB2 hk]
    exact h.2.2.1 x y h1 h2 h3 h4
  · rw [gup_off (by omega), gup_off (by omega), gup_off (by omega), gup_off (by omega)]
    intro x y a b h1 h2 h3 h4 h5 h6 h7 h8
    have e := h.2.2.2 x y a b h1 h2 h3 h4 h5 h6 h7 h8
    rw [zup_at, zup_off (by omega), gB_gupB, gV_gupB hk]
    refine ⟨e.1, ?_⟩
    by_cases q : 4 * (4 * (5 * x + y) + a) + b = k
    · rw [if_pos ⟨⟨⟨h1, by omega, h3, by omega⟩, h5, by omega, h7, by omega⟩, q⟩, ← q, show (x * 5 + y) * 16 + (a * 4 + b) = 4 * (4 * (5 * x + y) + a) + b by omega, gup_at]
    · rw [if_neg (fun z => q z.2), gup_off (by omega)]; exact e.2
theorem CG.putW {kd : ZK} {m : ZM} {g : Int} {G : GR} (ho : GOK G) (h : CG kd m g G) {k v : Int} (hk : 0 ≤ k ∧ k < 25) : CG kd (zup m (g + 1) k v) g (gup G (4 + k) v) := by
  have hu := ho.up
  refine ⟨h.1.frame (zup_off (by omega)), ?_, ?_, ?_⟩
  · rw [zup_off (by omega), gup_off (by omega), gup_off (by omega), gup_off (by omega), gup_off (by omega)]; exact h.2.1
  · rw [gup_off (by omega), gup_off (by omega)]
    intro x y h1 h2 h3 h4
    have e := h.2.2.1 x y h1 h2 h3 h4
    rw [zup_at, gW_gupW]
    by_cases q : 5 * x + y = k
    · rw [if_pos ⟨⟨h1, by omega, h3, by omega⟩, q⟩, ← q, show x * 5 + y = 5 * x + y by omega, gup_at]
    · rw [if_neg (fun z => q z.2), gup_off (by omega)]; exact e
  · rw [gup_off (by omega), gup_off (by omega), gup_off (by omega), gup_off (by omega)]
    intro x y a b h1 h2 h3 h4 h5 h6 h7 h8
    have e := h.2.2.2 x y a b h1 h2 h3 h4 h5 h6 h7 h8
    rw [zup_off (by omega), zup_off (by omega), gV_gupW (by omega), gB_gupW (by omega)]
    exact e
theorem GOK.gupV {G : GR} (h : GOK G) {x y a b v : Int} (hx : 0 ≤ x ∧ x < G 0) (hy : 0 ≤ y ∧ y < G 1) (ha : 0 ≤ a ∧ a < G 2) (hb : 0 ≤ b ∧ b < G 3) (hv : 0 ≤ v ∧ v ≤ 1) : GOK (gup G (29 + (4 * (4 * (5 * x + y) + a) + b)) v) := by
  have hu := h.up
  unfold GOK
  simp only [gup_off (show (0 : Int) ≠ 29 + (4 * (4 * (5 * x + y) + a) + b) by omega), gup_off (show (1 : Int) ≠ 29 + (4 * (4 * (5 * x + y) + a) + b) by omega), gup_off (show (2 : Int) ≠ 29 + (4 * (4 * (5 * x + y) + a) + b) by omega), gup_off (show (3 : Int) ≠ 29 + (4 * (4 * (5 * x + y) + a) + b) by omega), gW_gupV2 (show 0 ≤ 4 * (4 * (5 * x + y) + a) + b by omega), gV_gupV, gB_gupV (show 4 * (4 * (5 * x + y) + a) + b < 400 by omega)]
  refine ⟨h.1, h.2.1, ⟨h.2.2.1.1, fun p q c e => ?_, h.2.2.1.2.2⟩, h.2.2.2.1, fun p q c e z => ⟨?_, (h.2.2.2.2 p q c e z).2⟩⟩
  · split
    · exact hv
    · exact h.2.2.1.2.1 p q c e
  · rw [if_neg (by omega)]
    exact (h.2.2.2.2 p q c e z).1
theorem GOK.gupB {G : GR} (h : GOK G) {x y a b v : Int} (hx : 0 ≤ x ∧ x < G 0) (hy : 0 ≤ y ∧ y < G 1) (ha : 0 ≤ a ∧ a < G 2) (hb : 0 ≤ b ∧ b < G 3) (hv : 0 ≤ v ∧ v ≤ 12) : GOK (gup G (429 + (4 * (4 * (5 * x + y) + a) + b)) v) := by
  have hu := h.up
  unfold GOK
  simp only [gup_off (show (0 : Int) ≠ 429 + (4 * (4 * (5 * x + y) + a) + b) by omega), gup_off (show (1 : Int) ≠ 429 + (4 * (4 * (5 * x + y) + a) + b) by omega), gup_off (show (2 : Int) ≠ 429 + (4 * (4 * (5 * x + y) + a) + b) by omega), gup_off (show (3 : Int) ≠ 429 + (4 * (4 * (5 * x + y) + a) + b) by omega), gW_gupB2 (show 0 ≤ 4 * (4 * (5 * x + y) + a) + b by omega), gB_gupB, gV_gupB (show 0 ≤ 4 * (4 * (5 * x + y) + a) + b by omega)]
  refine ⟨h.1, h.2.1, ⟨h.2.2.1.1, h.2.2.1.2.1, fun p q c e => ?_⟩, h.2.2.2.1, fun p q c e z => ⟨(h.2.2.2.2 p q c e z).1, ?_⟩⟩
  · split
    · exact hv
    · exact h.2.2.1.2.2 p q c e
  · rw [if_neg (by omega)]
    exact (h.2.2.2.2 p q c e z).2
theorem GOK.gupW {G : GR} (h : GOK G) {x y v : Int} (hx : 0 ≤ x ∧ x < G 0) (hy : 0 ≤ y ∧ y < G 1) (hv : 0 ≤ v ∧ v ≤ 9) : GOK (gup G (4 + (5 * x + y)) v) := by
  have hu := h.up
  unfold GOK
  simp only [gup_off (show (0 : Int) ≠ 4 + (5 * x + y) by omega), gup_off (show (1 : Int) ≠ 4 + (5 * x + y) by omega), gup_off (show (2 : Int) ≠ 4 + (5 * x + y) by omega), gup_off (show (3 : Int) ≠ 4 + (5 * x + y) by omega), gV_gupW (show 5 * x + y < 25 by omega), gB_gupW (show 5 * x + y < 425 by omega), gW_gupW]
  refine ⟨h.1, h.2.1, ⟨fun p q => ?_, h.2.2.1.2.1, h.2.2.1.2.2⟩, fun p q z => ?_, h.2.2.2.2⟩
  · split
    · exact hv
    · exact h.2.2.1.1 p q
  · rw [if_neg (by omega)]
    exact h.2.2.2.1 p q z
