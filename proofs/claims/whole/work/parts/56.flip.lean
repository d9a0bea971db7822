/-! GAME flipped: how far it is -/
def flD (x y u v i a j b : Int) : Prop := u = x ∧ v = y ∧ (i < a ∨ i = a ∧ j < b)
def FLI (G : GR) (m : ZM) (g x y NA NB a b : Int) (mm : ZM) : Prop := (∀ c, (c < g ∨ g + 3 < c) → mm c = m c) ∧ mm g = m g ∧ mm (g + 1) = m (g + 1) ∧
  (∀ u v i j, 0 ≤ u → u < 5 → 0 ≤ v → v < 5 → 0 ≤ i → i < NA → 0 ≤ j → j < NB → (flD x y u v i a j b → mm (g + 2) (zS 0 u v i j) = gV G v u j i ∧ mm (g + 3) (zS 0 u v i j) = gB G v u j i) ∧ (¬ flD x y u v i a j b → mm (g + 2) (zS 0 u v i j) = m (g + 2) (zS 0 u v i j) ∧ mm (g + 3) (zS 0 u v i j) = m (g + 3) (zS 0 u v i j)))
theorem FLI_0 {G : GR} {m : ZM} {g x y NA NB : Int} : FLI G m g x y NA NB 0 0 m :=
  ⟨fun _ _ => rfl, rfl, rfl, fun u v i j h1 h2 h3 h4 h5 h6 h7 h8 => ⟨fun h => by unfold flD at h; omega, fun _ => ⟨rfl, rfl⟩⟩⟩
theorem FLI_cg {G : GR} {m mm : ZM} {g x y NA NB a b a' b' : Int} (k : FLI G m g x y NA NB a b mm) (e : ∀ u v i j, 0 ≤ i → i < NA → 0 ≤ j → j < NB → (flD x y u v i a j b ↔ flD x y u v i a' j b')) : FLI G m g x y NA NB a' b' mm :=
  ⟨k.1, k.2.1, k.2.2.1, fun u v i j h1 h2 h3 h4 h5 h6 h7 h8 => by rw [← e u v i j h5 h6 h7 h8]; exact k.2.2.2 u v i j h1 h2 h3 h4 h5 h6 h7 h8⟩
theorem FLI_1 {G : GR} {m mm : ZM} {g x y NA NB a b v1 v2 : Int} (hA : NA ≤ 4) (hB : NB ≤ 4) (hx : 0 ≤ x ∧ x < 5) (hy : 0 ≤ y ∧ y < 5) (ha : 0 ≤ a ∧ a < NA) (hb : 0 ≤ b ∧ b < NB) (e1 : v1 = gV G y x b a) (e2 : v2 = gB G y x b a) (k : FLI G m g x y NA NB a b mm) : FLI G m g x y NA NB a (b + 1) (zup (zup mm (g + 2) (zS 0 x y a b) v1) (g + 3) (zS 0 x y a b) v2) := by
  refine ⟨fun c hc => by rw [zup_off (by omega), zup_off (by omega)]; exact k.1 c hc, by rw [zup_off (by omega), zup_off (by omega)]; exact k.2.1, by rw [zup_off (by omega), zup_off (by omega)]; exact k.2.2.1, fun u v i j h1 h2 h3 h4 h5 h6 h7 h8 => ?_⟩
  have r := k.2.2.2 u v i j h1 h2 h3 h4 h5 h6 h7 h8
  have x2 : (zup (zup mm (g + 2) (zS 0 x y a b) v1) (g + 3) (zS 0 x y a b) v2) (g + 2) = gup (mm (g + 2)) (zS 0 x y a b) v1 := by rw [zup_off (by omega), zup_at]
  have x3 : (zup (zup mm (g + 2) (zS 0 x y a b) v1) (g + 3) (zS 0 x y a b) v2) (g + 3) = gup (mm (g + 3)) (zS 0 x y a b) v2 := by rw [zup_at, zup_off (by omega)]
  rw [x2, x3]
  rcases Classical.em (u = x ∧ v = y ∧ i = a ∧ j = b) with q | q
  · obtain ⟨q1, q2, q3, q4⟩ := q
    subst q1 q2 q3 q4
    rw [gup_at, gup_at]
    exact ⟨fun _ => ⟨e1, e2⟩, fun z => absurd ⟨rfl, rfl, Or.inr ⟨rfl, by omega⟩⟩ z⟩
  · have n : zS 0 u v i j ≠ zS 0 x y a b := fun z => q (zS_inj z ⟨h1, h2⟩ (by omega) (by omega) (by omega) hx (by omega) (by omega) (by omega))
    rw [gup_off n, gup_off n]
    exact ⟨fun z => r.1 (by unfold flD at z ⊢; omega), fun z => r.2 (by unfold flD at z ⊢; omega)⟩
