/-! ACTS on a game's row, step by step as both programs do them -/
theorem zS_v {p x y a b : Int} : zS p x y a b = if p = 0 then 4 * (4 * (5 * x + y) + a) + b else 4 * (4 * (5 * y + x) + b) + a := by
  unfold zS zC; split <;> omega
theorem zC_v {p x y : Int} : zC p x y = if p = 0 then 5 * x + y else 5 * y + x := by
  unfold zC; split <;> omega
theorem gup_sz {G K : GR} {k v : Int} (hk : 4 ≤ k) (h : K 0 = G 0 ∧ K 1 = G 1 ∧ K 2 = G 2 ∧ K 3 = G 3) : gup K k v 0 = G 0 ∧ gup K k v 1 = G 1 ∧ gup K k v 2 = G 2 ∧ gup K k v 3 = G 3 := by
  rw [gup_off (by omega), gup_off (by omega), gup_off (by omega), gup_off (by omega)]; exact h
theorem GOK.gupVp {G : GR} (h : GOK G) {p x y a b v : Int} (hp : p = 0 ∨ p = 1) (hx : 0 ≤ x ∧ x < nQ G p) (hy : 0 ≤ y ∧ y < nQ G (1 - p)) (ha : 0 ≤ a ∧ a < nA G p) (hb : 0 ≤ b ∧ b < nA G (1 - p)) (hv : 0 ≤ v ∧ v ≤ 1) : GOK (gup G (29 + zS p x y a b) v) := by
  have e := nQ_o (G := G) hp
  have e2 := nA_o (G := G) hp
  rw [zS_v]
  rcases hp with q | q <;> subst q
  · have := e.1 rfl
    have := e2.1 rfl
    rw [if_pos rfl]; exact h.gupV (by omega) (by omega) (by omega) (by omega) hv
  · have := e.2 rfl
    have := e2.2 rfl
    rw [if_neg (by decide)]; exact h.gupV (by omega) (by omega) (by omega) (by omega) hv
theorem GOK.gupBp {G : GR} (h : GOK G) {p x y a b v : Int} (hp : p = 0 ∨ p = 1) (hx : 0 ≤ x ∧ x < nQ G p) (hy : 0 ≤ y ∧ y < nQ G (1 - p)) (ha : 0 ≤ a ∧ a < nA G p) (hb : 0 ≤ b ∧ b < nA G (1 - p)) (hv : 0 ≤ v ∧ v ≤ 12) : GOK (gup G (429 + zS p x y a b) v) := by
  have e := nQ_o (G := G) hp
  have e2 := nA_o (G := G) hp
  rw [zS_v]
  rcases hp with q | q <;> subst q
  · have := e.1 rfl
    have := e2.1 rfl
    rw [if_pos rfl]; exact h.gupB (by omega) (by omega) (by omega) (by omega) hv
  · have := e.2 rfl
    have := e2.2 rfl
    rw [if_neg (by decide)]; exact h.gupB (by omega) (by omega) (by omega) (by omega) hv
theorem GOK.gupWp {G : GR} (h : GOK G) {p x y v : Int} (hp : p = 0 ∨ p = 1) (hx : 0 ≤ x ∧ x < nQ G p) (hy : 0 ≤ y ∧ y < nQ G (1 - p)) (hv : 0 ≤ v ∧ v ≤ 9) : GOK (gup G (4 + zC p x y) v) := by
  have e := nQ_o (G := G) hp
  rw [zC_v]
  rcases hp with q | q <;> subst q
  · have := e.1 rfl
    rw [if_pos rfl]; exact h.gupW (by omega) (by omega) hv
  · have := e.2 rfl
    rw [if_neg (by decide)]; exact h.gupW (by omega) (by omega) hv
/-- what a row's places say -/
theorem pVB_at {G : GR} (h : GOK G) {p x y a b : Int} (hp : p = 0 ∨ p = 1) (hx : 0 ≤ x ∧ x < nQ G p) (hy : 0 ≤ y ∧ y < nQ G (1 - p)) (ha : 0 ≤ a ∧ a < nA G p) (hb : 0 ≤ b ∧ b < nA G (1 - p)) : pV G p x y a b = G (29 + zS p x y a b) ∧ pB G p x y a b = G (429 + zS p x y a b) := by
  have h1 := h.q p
  have h2 := h.q (1 - p)
  have h3 := h.a p
  have h4 := h.a (1 - p)
  rw [zS_v, pV, pB]
  rcases hp with q | q <;> subst q
  · rw [if_pos rfl, if_pos rfl, if_pos rfl]
    exact ⟨gV_i (by omega), gB_i (by omega)⟩
  · rw [if_neg (by decide), if_neg (by decide), if_neg (by decide)]
    exact ⟨gV_i (by omega), gB_i (by omega)⟩
theorem pW_at {G : GR} (h : GOK G) {p x y : Int} (hp : p = 0 ∨ p = 1) (hx : 0 ≤ x ∧ x < nQ G p) (hy : 0 ≤ y ∧ y < nQ G (1 - p)) : pW G p x y = G (4 + zC p x y) := by
  have h1 := h.q p
  have h2 := h.q (1 - p)
  rw [zC_v, pW]
  rcases hp with q | q <;> subst q
  · rw [if_pos rfl, if_pos rfl]
    exact gW_i (by omega)
  · rw [if_neg (by decide), if_neg (by decide)]
    exact gW_i (by omega)
/-- the object at g bears K, of G's sizes; all else is as in m -/
def DI (kd : ZK) (m : ZM) (g : Int) (G : GR) (mm : ZM) (K : GR) : Prop := CG kd mm g K ∧ GOK K ∧ (K 0 = G 0 ∧ K 1 = G 1 ∧ K 2 = G 2 ∧ K 3 = G 3) ∧ ∀ c, (c < g ∨ g + 3 < c) → mm c = m c
theorem DI.sq {kd : ZK} {m mm : ZM} {g : Int} {G K : GR} (h : DI kd m g G mm K) (p : Int) : nQ K p = nQ G p ∧ nA K p = nA G p := by
  unfold nQ nA; rw [h.2.2.1.1, h.2.2.1.2.1, h.2.2.1.2.2.1, h.2.2.1.2.2.2]; exact ⟨rfl, rfl⟩
theorem DI.rf {kd : ZK} {m : ZM} {g : Int} {G : GR} (h : CG kd m g G) (ho : GOK G) : DI kd m g G m G := ⟨h, ho, ⟨rfl, rfl, rfl, rfl⟩, fun _ _ => rfl⟩
theorem DI.putV {kd : ZK} {m mm : ZM} {g : Int} {G K : GR} (h : DI kd m g G mm K) {p x y a b v : Int} (hp : p = 0 ∨ p = 1) (hx : 0 ≤ x ∧ x < nQ G p) (hy : 0 ≤ y ∧ y < nQ G (1 - p)) (ha : 0 ≤ a ∧ a < nA G p) (hb : 0 ≤ b ∧ b < nA G (1 - p)) (hv : 0 ≤ v ∧ v ≤ 1) : DI kd m g G (zup mm (mm g 5) (zS p x y a b) v) (gup K (29 + zS p x y a b) v) := by
  have e1 := h.sq p
  have e2 := h.sq (1 - p)
  have h1 := h.2.1.q p
  have h2 := h.2.1.q (1 - p)
  have h3 := h.2.1.a p
  have h4 := h.2.1.a (1 - p)
  have hz := zS_in (p := p) (x := x) (y := y) (a := a) (b := b) (by omega) (by omega) (by omega) (by omega)
  rw [h.1.1.2.1.2.1]
  exact ⟨h.1.putV h.2.1 hz, h.2.1.gupVp hp (by omega) (by omega) (by omega) (by omega) hv, gup_sz (by omega) h.2.2.1, fun c hc => by rw [zup_off (by omega)]; exact h.2.2.2 c hc⟩
theorem DI.putB {kd : ZK} {m mm : ZM} {g : Int} {G K : GR} (h : DI kd m g G mm K) {p x y a b v : Int} (hp : p = 0 ∨ p = 1) (hx : 0 ≤ x ∧ x < nQ G p) (hy : 0 ≤ y ∧ y < nQ G (1 - p)) (ha : 0 ≤ a ∧ a < nA G p) (hb : 0 ≤ b ∧ b < nA G (1 - p)) (hv : 0 ≤ v ∧ v ≤ 12) : DI kd m g G (zup mm (mm g 6) (zS p x y a b) v) (gup K (429 + zS p x y a b) v) := by
  have e1 := h.sq p
  have e2 := h.sq (1 - p)
  have h1 := h.2.1.q p
  have h2 := h.2.1.q (1 - p)
  have h3 := h.2.1.a p
  have h4 := h.2.1.a (1 - p)
  have hz := zS_in (p := p) (x := x) (y := y) (a := a) (b := b) (by omega) (by omega) (by omega) (by omega)
  rw [h.1.1.2.1.2.2]
  exact ⟨h.1.putB h.2.1 hz.1, h.2.1.gupBp hp (by omega) (by omega) (by omega) (by omega) hv, gup_sz (by omega) h.2.2.1, fun c hc => by rw [zup_off (by omega)]; exact h.2.2.2 c hc⟩
theorem DI.putW {kd : ZK} {m mm : ZM} {g : Int} {G K : GR} (h : DI kd m g G mm K) {p x y v : Int} (hp : p = 0 ∨ p = 1) (hx : 0 ≤ x ∧ x < nQ G p) (hy : 0 ≤ y ∧ y < nQ G (1 - p)) (hv : 0 ≤ v ∧ v ≤ 9) : DI kd m g G (zup mm (mm g 4) (zC p x y) v) (gup K (4 + zC p x y) v) := by
  have e1 := h.sq p
  have e2 := h.sq (1 - p)
  have h1 := h.2.1.q p
  have h2 := h.2.1.q (1 - p)
  have hz := zC_in (p := p) (x := x) (y := y) (by omega) (by omega)
  rw [h.1.1.2.1.1]
  exact ⟨h.1.putW h.2.1 hz, h.2.1.gupWp hp (by omega) (by omega) hv, gup_sz (by omega) h.2.2.1, fun c hc => by rw [zup_off (by omega)]; exact h.2.2.2 c hc⟩
theorem DI.rd {kd : ZK} {m mm : ZM} {g : Int} {G K : GR} (h : DI kd m g G mm K) {p x y a b : Int} (hp : p = 0 ∨ p = 1) (hx : 0 ≤ x ∧ x < nQ G p) (hy : 0 ≤ y ∧ y < nQ G (1 - p)) (ha : 0 ≤ a ∧ a < nA G p) (hb : 0 ≤ b ∧ b < nA G (1 - p)) : (mm (mm g 5) (zS p x y a b) = K (29 + zS p x y a b) ∧ 0 ≤ K (29 + zS p x y a b) ∧ K (29 + zS p x y a b) ≤ 1) ∧ (mm (mm g 6) (zS p x y a b) = K (429 + zS p x y a b) ∧ 0 ≤ K (429 + zS p x y a b) ∧ K (429 + zS p x y a b) ≤ 12) := by
  have e1 := h.sq p
  have e2 := h.sq (1 - p)
  have q1 : 0 ≤ x ∧ x < nQ K p := by omega
  have q2 : 0 ≤ y ∧ y < nQ K (1 - p) := by omega
  have q3 : 0 ≤ a ∧ a < nA K p := by omega
  have q4 : 0 ≤ b ∧ b < nA K (1 - p) := by omega
  have k := pVB_at h.2.1 hp q1 q2 q3 q4
  have k2 := h.1.VB hp q1 q2 q3 q4
  have k3 := h.2.1.V p x y a b
  have k4 := h.2.1.B p x y a b
  rw [k2.1, k2.2, ← k.1, ← k.2]
  exact ⟨⟨rfl, k3⟩, ⟨rfl, k4⟩⟩
noncomputable def opPar (G : GR) (x y s : Int) : GR := zfold (G 2).toNat (fun a H => zfold (G 3).toNat (fun b K => gup K (29 + zS 0 x y a b) (zb ((a + b) % 2 = s))) H) G
def swp (K : GR) (i j : Int) : GR := gup (gup K i (K j)) j (K i)
def opEx (G : GR) (p x a o : Int) : GR := zfold (nQ G (1 - p)).toNat (fun h H => zfold (nA G (1 - p)).toNat (fun b K => swp (swp K (29 + zS p x h a b) (29 + zS p x h o b)) (429 + zS p x h a b) (429 + zS p x h o b)) H) G
def nst (s : Int) : Int := iw (iw (s * 1103515245) + 12345)
def dW (s : Int) : Int := iw ((Int.tmod (zushr s 16) 4) + 1)
def dV (s : Int) : Int := Int.tmod (zushr s 16) 2
def opD3 (G : GR) (x y a : Int) : Int × GR → Int × GR := zfold (G 3).toNat (fun b p => (nst p.1, gup p.2 (29 + zS 0 x y a b) (dV (nst p.1))))
def opD2 (G : GR) (x y : Int) : Int × GR → Int × GR := fun p => zfold (G 2).toNat (fun a p => opD3 G x y a p) (nst p.1, gup p.2 (4 + zC 0 x y) (dW (nst p.1)))
def opD1 (G : GR) (x : Int) : Int × GR → Int × GR := zfold (G 1).toNat (fun y p => opD2 G x y p)
def opDraw (G : GR) (seed : Int) : Int × GR := zfold (G 0).toNat (fun x p => opD1 G x p) (seed, G)
