/-! THE MODEL, twenty-fourth: the places one after another -/
theorem zfold_cat {σ : Type} (a : Nat) (f : Int → σ → σ) (s : σ) : ∀ b : Nat, zfold (a + b) f s = zfold b (fun i s => f (a + i) s) (zfold a f s) := by
  intro b
  induction b with
  | zero => rfl
  | succ b ih =>
    rw [← Nat.add_assoc, zfold, zfold, ih]
    congr 1
theorem zfold_cg {σ : Type} {f g : Int → σ → σ} (s : σ) : ∀ n : Nat, (∀ (i : Int) (s : σ), 0 ≤ i → i < n → f i s = g i s) → zfold n f s = zfold n g s := by
  intro n
  induction n with
  | zero => intro _; rfl
  | succ n ih =>
    intro h
    rw [zfold, zfold, ih (fun i s i0_q i1_q => h i s i0_q (by omega)), h n _ (by omega) (by omega)]
theorem zfold_lines {σ : Type} (w : Nat) (f : Int → σ → σ) (s : σ) : ∀ n : Nat, zfold (n * w) f s = zfold n (fun i s => zfold w (fun j s => f (i * w + j) s) s) s := by
  intro n
  induction n with
  | zero => rw [Nat.zero_mul]; rfl
  | succ n ih =>
    rw [Nat.succ_mul, zfold_cat, ih, zfold]
    refine zfold_cg _ w (fun i s _ _ => ?_)
    congr 1
theorem zfold_pad {σ : Type} {f : Int → σ → σ} (s : σ) {n k : Nat} (h : n ≤ k) (e : ∀ (i : Int) (s : σ), n ≤ i → i < k → f i s = s) : zfold k f s = zfold n f s := by
  obtain ⟨b, rfl⟩ := Nat.exists_eq_add_of_le h
  rw [zfold_cat]
  have : ∀ (c : Nat) (t : σ), c ≤ b → zfold c (fun i s => f (n + i) s) t = t := by
    intro c
    induction c with
    | zero => intro t _; rfl
    | succ c ih =>
      intro t hc_q
      rw [zfold, ih t (by omega)]
      exact e _ _ (by omega) (by omega)
  exact this b _ (Nat.le_refl _)
theorem zfold_four {σ : Type} (f : Int → σ → σ) (s : σ) : zfold 400 f s = zfold 5 (fun x s => zfold 5 (fun y s => zfold 4 (fun a s => zfold 4 (fun b s => f (4 * (4 * (5 * x + y) + a) + b) s) s) s) s) s := by
  rw [show (400 : Nat) = 100 * 4 from rfl, zfold_lines, show (100 : Nat) = 25 * 4 from rfl, zfold_lines, show (25 : Nat) = 5 * 5 from rfl, zfold_lines]
  refine zfold_cg _ 5 (fun x s _ _ => zfold_cg _ 5 (fun y s _ _ => zfold_cg _ 4 (fun a s _ _ => zfold_cg _ 4 (fun b s _ _ => ?_))))
  congr 1
  omega
theorem zfold_id {σ : Type} {f : Int → σ → σ} (s : σ) (n : Nat) (e : ∀ (i : Int) (s : σ), 0 ≤ i → i < n → f i s = s) : zfold n f s = s := zfold_pad (n := 0) s (Nat.zero_le _) e
theorem wSpots_k {G : GR} (ho : GOK G) {w i e : Int} {V : Int → Int → Int → Int → Int} (hV : ∀ x y a b, (G 0 ≤ x ∨ G 1 ≤ y ∨ G 2 ≤ a ∨ G 3 ≤ b) → V x y a b = 0) (s : Int × Int) : zfold 400 (fun k s => wCell w i e (k / 80) (k / 16 % 5) (k / 4 % 4) (k % 4) (V (k / 80) (k / 16 % 5) (k / 4 % 4) (k % 4)) s) s = wSpots w i e G V s := by
  have h0 := ho.1
  have hc_q : ∀ x y a b s, (G 0 ≤ x ∨ G 1 ≤ y ∨ G 2 ≤ a ∨ G 3 ≤ b) → wCell w i e x y a b (V x y a b) s = s := fun x y a b s h => by
    unfold wCell
    rw [if_pos (hV x y a b h)]
  rw [zfold_four]
  have e1_q : ∀ (x y a : Int) (s : Int × Int), 0 ≤ x → x < 5 → 0 ≤ y → y < 5 → 0 ≤ a → a < 4 → zfold 4 (fun b s => wCell w i e ((4 * (4 * (5 * x + y) + a) + b) / 80) ((4 * (4 * (5 * x + y) + a) + b) / 16 % 5) ((4 * (4 * (5 * x + y) + a) + b) / 4 % 4) ((4 * (4 * (5 * x + y) + a) + b) % 4) (V ((4 * (4 * (5 * x + y) + a) + b) / 80) ((4 * (4 * (5 * x + y) + a) + b) / 16 % 5) ((4 * (4 * (5 * x + y) + a) + b) / 4 % 4) ((4 * (4 * (5 * x + y) + a) + b) % 4)) s) s = zfold (G 3).toNat (fun b s => wCell w i e x y a b (V x y a b) s) s := fun x y a s x0_q x1_q y0 y1 a0_q a1_q => by
    rw [← zfold_pad (n := (G 3).toNat) (k := 4) (f := fun b s => wCell w i e x y a b (V x y a b) s) s (by omega) (fun b s b0 _ => hc_q x y a b s (by omega))]
    refine zfold_cg _ 4 (fun b s b0 b1 => ?_)
    rw [show (4 * (4 * (5 * x + y) + a) + b) / 80 = x by omega, show (4 * (4 * (5 * x + y) + a) + b) / 16 % 5 = y by omega, show (4 * (4 * (5 * x + y) + a) + b) / 4 % 4 = a by omega, show (4 * (4 * (5 * x + y) + a) + b) % 4 = b by omega]
  have e2_q : ∀ (x y : Int) (s : Int × Int), zfold 4 (fun a s => zfold (G 3).toNat (fun b s => wCell w i e x y a b (V x y a b) s) s) s = zfold (G 2).toNat (fun a s => zfold (G 3).toNat (fun b s => wCell w i e x y a b (V x y a b) s) s) s := fun x y s => zfold_pad s (by omega) (fun a s a0_q _ => zfold_id s _ (fun b s _ _ => hc_q x y a b s (by omega)))
  have e3_q : ∀ (x : Int) (s : Int × Int), zfold 5 (fun y s => zfold (G 2).toNat (fun a s => zfold (G 3).toNat (fun b s => wCell w i e x y a b (V x y a b) s) s) s) s = zfold (G 1).toNat (fun y s => zfold (G 2).toNat (fun a s => zfold (G 3).toNat (fun b s => wCell w i e x y a b (V x y a b) s) s) s) s := fun x s => zfold_pad s (by omega) (fun y s y0 _ => zfold_id s _ (fun a s _ _ => zfold_id s _ (fun b s _ _ => hc_q x y a b s (by omega))))
  unfold wSpots
  rw [← zfold_pad (n := (G 0).toNat) (k := 5) (f := fun x s => zfold (G 1).toNat (fun y s => zfold (G 2).toNat (fun a s => zfold (G 3).toNat (fun b s => wCell w i e x y a b (V x y a b) s) s) s) s) s (by omega) (fun x s x0_q _ => zfold_id s _ (fun y s _ _ => zfold_id s _ (fun a s _ _ => zfold_id s _ (fun b s _ _ => hc_q x y a b s (by omega)))))]
  refine zfold_cg _ 5 (fun x s x0_q x1_q => ?_)
  rw [← e3_q x s]
  refine zfold_cg _ 5 (fun y s y0 y1 => ?_)
  rw [← e2_q x y s]
  exact zfold_cg _ 4 (fun a s a0_q a1_q => e1_q x y a s x0_q (by omega) y0 (by omega) a0_q (by omega))
