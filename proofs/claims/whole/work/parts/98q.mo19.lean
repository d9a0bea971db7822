/-! THE MODEL, nineteenth: drop, copy -/
def SG (p : Int) (G : GR) (σ : Int → Int) (r : Int → Int) : Prop := (∀ o j, 0 ≤ o → o < 5 → 0 ≤ j → j < 5 → r (4 + PP p o j) = cpW G p (σ o) j) ∧ ∀ o j k, 0 ≤ o → o < 5 → 0 ≤ j → j < 5 → 0 ≤ k → k < 16 → r (29 + 16 * PP p o j + k) = cpX G 29 p (σ o) j k ∧ r (429 + 16 * PP p o j + k) = cpX G 429 p (σ o) j k
theorem SG.cg {p : Int} {G : GR} {σ τ r : Int → Int} (h : SG p G σ r) (e : ∀ o, 0 ≤ o → o < 5 → σ o = τ o) : SG p G τ r := ⟨fun o j o0_q o1 j0 j1 => by rw [← e o o0_q o1]; exact h.1 o j o0_q o1 j0 j1, fun o j k o0_q o1 j0 j1 k0_q k1_q => by rw [← e o o0_q o1]; exact h.2 o j k o0_q o1 j0 j1 k0_q k1_q⟩
theorem SG_0 {p : Int} {G : GR} {r : Int → Int} (e : ∀ i, 0 ≤ i → i < 829 → r i = G i) : SG p G (fun o => o) r := by
  refine ⟨fun o j o0_q o1 j0 j1 => ?_, fun o j k o0_q o1 j0 j1 k0_q k1_q => ?_⟩
  · have b := PP_in (p := p) (o := o) (j := j) ⟨o0_q, o1⟩ ⟨j0, j1⟩
    show r (4 + PP p o j) = cpW G p o j
    unfold cpW
    rw [if_neg (by omega)]
    exact e _ (by omega) (by omega)
  · have b := PP_in (p := p) (o := o) (j := j) ⟨o0_q, o1⟩ ⟨j0, j1⟩
    show r (29 + 16 * PP p o j + k) = cpX G 29 p o j k ∧ r (429 + 16 * PP p o j + k) = cpX G 429 p o j k
    unfold cpX
    rw [if_neg (by omega), if_neg (by omega)]
    exact ⟨e _ (by omega) (by omega), e _ (by omega) (by omega)⟩
theorem SG.mcE {p f t : Int} {G : GR} {σ τ : Int → Int} {m m1_q : ZM} (h : SG p G σ (m 79)) (k : MC m p f t m1_q) (hf : -1 ≤ f ∧ f < 5) (e : ∀ o, 0 ≤ o → o < 5 → τ o = if o = t then (if f = -1 then -1 else σ f) else σ o) : SG p G τ (m1_q 79) := by
  refine ⟨fun o j o0_q o1 j0 j1 => ?_, fun o j k' o0_q o1 j0 j1 k0_q k1_q => ?_⟩
  · have z := k.2.2.1 o j o0_q o1 j0 j1
    rw [e o o0_q o1]
    rcases Classical.em (o = t) with q | q
    · rw [z.1 ⟨q, j1⟩, if_pos q]
      rcases Classical.em (f = -1) with w | w
      · rw [if_pos w]
        unfold cpW
        rw [if_pos w, if_pos rfl]
      · rw [if_neg w, ← h.1 f j (by omega) hf.2 j0 j1]
        unfold cpW
        rw [if_neg w]
    · rw [z.2 (fun e => q e.1), if_neg q]
      exact h.1 o j o0_q o1 j0 j1
  · have z := k.2.2.2 o j k' o0_q o1 j0 j1 k0_q k1_q
    rw [e o o0_q o1]
    rcases Classical.em (o = t) with q | q
    · have z1 := z.1 ⟨q, by omega⟩
      rw [z1.1, z1.2, if_pos q]
      rcases Classical.em (f = -1) with w | w
      · rw [if_pos w]
        unfold cpX
        rw [if_pos w, if_pos w, if_pos rfl, if_pos rfl]
        exact ⟨rfl, rfl⟩
      · have hh := h.2 f j k' (by omega) hf.2 j0 j1 k0_q k1_q
        rw [if_neg w, ← hh.1, ← hh.2]
        unfold cpX
        rw [if_neg w, if_neg w]
        exact ⟨rfl, rfl⟩
    · have z1 := z.2 (fun e => q e.1)
      rw [z1.1, z1.2, if_neg q]
      exact h.2 o j k' o0_q o1 j0 j1 k0_q k1_q
theorem SG.mc {p f t : Int} {G : GR} {σ : Int → Int} {m m1_q : ZM} (h : SG p G σ (m 79)) (k : MC m p f t m1_q) (hf : -1 ≤ f ∧ f < 5) : SG p G (fun o => if o = t then (if f = -1 then -1 else σ f) else σ o) (m1_q 79) := h.mcE k hf (fun _ _ _ => rfl)
theorem SG_row0 {G : GR} (ho : GOK G) {σ τ r : Int → Int} {N : Int} (h : SG 0 G σ r) (hz : r 0 = N ∧ r 1 = G 1 ∧ r 2 = G 2 ∧ r 3 = G 3) (hs : ∀ o, 0 ≤ o → o < N → (0 ≤ σ o ∧ σ o < 5) ∧ σ o = τ o) (hn : ∀ o, N ≤ o → o < 5 → σ o = -1 ∨ (G 0 ≤ σ o ∧ σ o < 5)) {i : Int} (h0 : 0 ≤ i) (h1 : i < 829) : r i = mkG N (G 1) (G 2) (G 3) (fun x y => gW G (τ x) y) (fun x y a b => gV G (τ x) y a b) (fun x y a b => gB G (τ x) y a b) i := by
  have hz2 := ho.2.2.2
  have g0 := ho.1
  refine mkRow hz (fun x y x0_q x1_q y0 y1 => ?_) (fun x y a b x0_q x1_q y0 y1 a0_q a1_q b0 b1 => ?_) h0 h1
  · have z := h.1 x y x0_q x1_q y0 y1
    have e : PP 0 x y = 5 * x + y := by unfold PP; rw [if_pos rfl]
    rw [e] at z
    rw [z]
    unfold cpW cutW
    have key : 0 ≤ σ x → σ x < 5 → G (4 + PP 0 (σ x) y) = gW G (σ x) y := fun q0 q1_q => by
      rw [gW_i ⟨q0, q1_q, y0, y1⟩]
      unfold PP
      rw [if_pos rfl]
    rcases Classical.em (x < N) with q | q
    · have k := hs x x0_q q
      rw [if_neg (by omega), key k.1.1 k.1.2, k.2]
      rcases Classical.em (y < G 1) with w | w
      · rw [zite_t ⟨x0_q, q, y0, w⟩]
      · rw [zite_f (fun e => w e.2.2.2)]
        exact hz2.1 _ _ (Or.inr (by omega))
    · rw [zite_f (fun e => q e.2.1)]
      rcases hn x (by omega) x1_q with k | k
      · rw [if_pos k]
      · rw [if_neg (by omega), key (by omega) k.2]
        exact hz2.1 _ _ (Or.inl k.1)
  · have z := h.2 x y (4 * a + b) x0_q x1_q y0 y1 (by omega) (by omega)
    have e : PP 0 x y = 5 * x + y := by unfold PP; rw [if_pos rfl]
    rw [e] at z
    rw [show 29 + (4 * (4 * (5 * x + y) + a) + b) = 29 + 16 * (5 * x + y) + (4 * a + b) by omega, show 429 + (4 * (4 * (5 * x + y) + a) + b) = 429 + 16 * (5 * x + y) + (4 * a + b) by omega, z.1, z.2]
    unfold cpX cutV
    have key : 0 ≤ σ x → σ x < 5 → G (29 + 16 * PP 0 (σ x) y + (4 * a + b)) = gV G (σ x) y a b ∧ G (429 + 16 * PP 0 (σ x) y + (4 * a + b)) = gB G (σ x) y a b := fun q0 q1_q => by
      rw [gV_i ⟨⟨q0, q1_q, y0, y1⟩, a0_q, a1_q, b0, b1⟩, gB_i ⟨⟨q0, q1_q, y0, y1⟩, a0_q, a1_q, b0, b1⟩]
      unfold PP
      rw [if_pos rfl]
      exact ⟨by congr 1; omega, by congr 1; omega⟩
    rcases Classical.em (x < N) with q | q
    · have k := hs x x0_q q
      have kk := key k.1.1 k.1.2
      rw [if_neg (by omega), if_neg (by omega), kk.1, kk.2, k.2]
      rcases Classical.em (y < G 1 ∧ a < G 2 ∧ b < G 3) with w | w
      · rw [zite_t ⟨⟨x0_q, q, y0, w.1⟩, a0_q, w.2.1, b0, w.2.2⟩, zite_t ⟨⟨x0_q, q, y0, w.1⟩, a0_q, w.2.1, b0, w.2.2⟩]
        exact ⟨rfl, rfl⟩
      · rw [zite_f (fun e => w ⟨e.1.2.2.2, e.2.2.1, e.2.2.2.2⟩), zite_f (fun e => w ⟨e.1.2.2.2, e.2.2.1, e.2.2.2.2⟩)]
        exact hz2.2 _ _ _ _ (by omega)
    · rw [zite_f (fun e => q e.1.2.1), zite_f (fun e => q e.1.2.1)]
      rcases hn x (by omega) x1_q with k | k
      · rw [if_pos k, if_pos k]; exact ⟨rfl, rfl⟩
      · have kk := key (by omega) k.2
        rw [if_neg (by omega), if_neg (by omega), kk.1, kk.2]
        exact hz2.2 _ _ _ _ (Or.inl k.1)
theorem SG_row1 {G : GR} (ho : GOK G) {σ τ r : Int → Int} {N : Int} (h : SG 1 G σ r) (hz : r 0 = G 0 ∧ r 1 = N ∧ r 2 = G 2 ∧ r 3 = G 3) (hs : ∀ o, 0 ≤ o → o < N → (0 ≤ σ o ∧ σ o < 5) ∧ σ o = τ o) (hn : ∀ o, N ≤ o → o < 5 → σ o = -1 ∨ (G 1 ≤ σ o ∧ σ o < 5)) {i : Int} (h0 : 0 ≤ i) (h1 : i < 829) : r i = mkG (G 0) N (G 2) (G 3) (fun x y => gW G x (τ y)) (fun x y a b => gV G x (τ y) a b) (fun x y a b => gB G x (τ y) a b) i := by
  have hz2 := ho.2.2.2
  have g0 := ho.1
  have n1_q : ¬ (1 : Int) = 0 := by decide
  refine mkRow hz (fun x y x0_q x1_q y0 y1 => ?_) (fun x y a b x0_q x1_q y0 y1 a0_q a1_q b0 b1 => ?_) h0 h1
  · have z := h.1 y x y0 y1 x0_q x1_q
    have e : PP 1 y x = 5 * x + y := by unfold PP; rw [if_neg n1_q]
    rw [e] at z
    rw [z]
    unfold cpW cutW
    have key : 0 ≤ σ y → σ y < 5 → G (4 + PP 1 (σ y) x) = gW G x (σ y) := fun q0 q1_q => by
      rw [gW_i ⟨x0_q, x1_q, q0, q1_q⟩]
      unfold PP
      rw [if_neg n1_q]
    rcases Classical.em (y < N) with q | q
    · have k := hs y y0 q
      rw [if_neg (by omega), key k.1.1 k.1.2, k.2]
      rcases Classical.em (x < G 0) with w | w
      · rw [zite_t ⟨x0_q, w, y0, q⟩]
      · rw [zite_f (fun e => w e.2.1)]
        exact hz2.1 _ _ (Or.inl (by omega))
    · rw [zite_f (fun e => q e.2.2.2)]
      rcases hn y (by omega) y1 with k | k
      · rw [if_pos k]
      · rw [if_neg (by omega), key (by omega) k.2]
        exact hz2.1 _ _ (Or.inr k.1)
  · have z := h.2 y x (4 * a + b) y0 y1 x0_q x1_q (by omega) (by omega)
    have e : PP 1 y x = 5 * x + y := by unfold PP; rw [if_neg n1_q]
    rw [e] at z
    rw [show 29 + (4 * (4 * (5 * x + y) + a) + b) = 29 + 16 * (5 * x + y) + (4 * a + b) by omega, show 429 + (4 * (4 * (5 * x + y) + a) + b) = 429 + 16 * (5 * x + y) + (4 * a + b) by omega, z.1, z.2]
    unfold cpX cutV
    have key : 0 ≤ σ y → σ y < 5 → G (29 + 16 * PP 1 (σ y) x + (4 * a + b)) = gV G x (σ y) a b ∧ G (429 + 16 * PP 1 (σ y) x + (4 * a + b)) = gB G x (σ y) a b := fun q0 q1_q => by
      rw [gV_i ⟨⟨x0_q, x1_q, q0, q1_q⟩, a0_q, a1_q, b0, b1⟩, gB_i ⟨⟨x0_q, x1_q, q0, q1_q⟩, a0_q, a1_q, b0, b1⟩]
      unfold PP
      rw [if_neg n1_q]
      exact ⟨by congr 1; omega, by congr 1; omega⟩
    rcases Classical.em (y < N) with q | q
    · have k := hs y y0 q
      have kk := key k.1.1 k.1.2
      rw [if_neg (by omega), if_neg (by omega), kk.1, kk.2, k.2]
      rcases Classical.em (x < G 0 ∧ a < G 2 ∧ b < G 3) with w | w
      · rw [zite_t ⟨⟨x0_q, w.1, y0, q⟩, a0_q, w.2.1, b0, w.2.2⟩, zite_t ⟨⟨x0_q, w.1, y0, q⟩, a0_q, w.2.1, b0, w.2.2⟩]
        exact ⟨rfl, rfl⟩
      · rw [zite_f (fun e => w ⟨e.1.2.1, e.2.2.1, e.2.2.2.2⟩), zite_f (fun e => w ⟨e.1.2.1, e.2.2.1, e.2.2.2.2⟩)]
        exact hz2.2 _ _ _ _ (by omega)
    · rw [zite_f (fun e => q e.1.2.2.2), zite_f (fun e => q e.1.2.2.2)]
      rcases hn y (by omega) y1 with k | k
      · rw [if_pos k, if_pos k]; exact ⟨rfl, rfl⟩
      · have kk := key (by omega) k.2
        rw [if_neg (by omega), if_neg (by omega), kk.1, kk.2]
        exact hz2.2 _ _ _ _ (Or.inr (Or.inl k.1))
theorem opDrop_row {G : GR} (ho : GOK G) {p q : Int} {σ r : Int → Int} (hp : p = 0 ∨ p = 1) (hq : 0 ≤ q ∧ q < nQ G p) (h : SG p G σ r) (e : ∀ o, 0 ≤ o → o < 5 → σ o = if o < q then o else if o < nQ G p - 1 then o + 1 else if o = nQ G p - 1 then -1 else o) (hz : r p = nQ G p - 1) (hz2 : ∀ k, 0 ≤ k → k < 4 → k ≠ p → r k = G k) {i : Int} (h0 : 0 ≤ i) (h1 : i < 829) : r i = opDrop G p q i := by
  have b := ho.q p
  have k1_q : ∀ o, 0 ≤ o → o < nQ G p - 1 → (0 ≤ σ o ∧ σ o < 5) ∧ σ o = zsk q o := fun o o0_q o1 => by
    rw [e o o0_q (by omega)]
    unfold zsk
    rcases Classical.em (o < q) with k | k
    · rw [if_pos k, if_pos k]; omega
    · rw [if_neg k, if_neg k, if_pos o1]; omega
  have k2_q : ∀ o, nQ G p - 1 ≤ o → o < 5 → σ o = -1 ∨ (nQ G p ≤ σ o ∧ σ o < 5) := fun o o0_q o1 => by
    rw [e o (by omega) o1, if_neg (by omega), if_neg (by omega)]
    rcases Classical.em (o = nQ G p - 1) with k | k
    · rw [if_pos k]; exact Or.inl rfl
    · rw [if_neg k]; exact Or.inr (by omega)
  unfold opDrop
  rcases hp with w | w <;> subst w
  · rw [if_pos rfl]
    exact SG_row0 ho h ⟨hz, hz2 1 (by decide) (by decide) (by decide), hz2 2 (by decide) (by decide) (by decide), hz2 3 (by decide) (by decide) (by decide)⟩ k1_q k2_q h0 h1
  · rw [if_neg (by decide)]
    exact SG_row1 ho h ⟨hz2 0 (by decide) (by decide) (by decide), hz, hz2 2 (by decide) (by decide) (by decide), hz2 3 (by decide) (by decide) (by decide)⟩ k1_q k2_q h0 h1
theorem opCopy_row {G : GR} (ho : GOK G) {p q : Int} {σ r : Int → Int} (hp : p = 0 ∨ p = 1) (hq : 0 ≤ q ∧ q < nQ G p) (h5 : nQ G p < 5) (h : SG p G σ r) (e : ∀ o, 0 ≤ o → o < 5 → σ o = if o = nQ G p then q else o) (hz : r p = nQ G p + 1) (hz2 : ∀ k, 0 ≤ k → k < 4 → k ≠ p → r k = G k) {i : Int} (h0 : 0 ≤ i) (h1 : i < 829) : r i = opCopy G p q i := by
  have b := ho.q p
  have k1_q : ∀ o, 0 ≤ o → o < nQ G p + 1 → (0 ≤ σ o ∧ σ o < 5) ∧ σ o = zlk (nQ G p) q o := fun o o0_q o1 => by
    rw [e o o0_q (by omega)]
    unfold zlk
    rcases Classical.em (o = nQ G p) with k | k
    · rw [if_pos k]; omega
    · rw [if_neg k]; omega
  have k2_q : ∀ o, nQ G p + 1 ≤ o → o < 5 → σ o = -1 ∨ (nQ G p ≤ σ o ∧ σ o < 5) := fun o o0_q o1 => by
    rw [e o (by omega) o1, if_neg (by omega)]
    exact Or.inr (by omega)
  unfold opCopy
  rcases hp with w | w <;> subst w
  · rw [if_pos rfl]
    exact SG_row0 ho h ⟨hz, hz2 1 (by decide) (by decide) (by decide), hz2 2 (by decide) (by decide) (by decide), hz2 3 (by decide) (by decide) (by decide)⟩ k1_q k2_q h0 h1
  · rw [if_neg (by decide)]
    exact SG_row1 ho h ⟨hz2 0 (by decide) (by decide) (by decide), hz, hz2 2 (by decide) (by decide) (by decide), hz2 3 (by decide) (by decide) (by decide)⟩ k1_q k2_q h0 h1
