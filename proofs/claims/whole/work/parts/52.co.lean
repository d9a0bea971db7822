/-! COPYING a question over another one: how far it is -/
def coD (t x y h i a j b : Int) : Prop := x = t ∧ (y < h ∨ y = h ∧ (i < a ∨ i = a ∧ j < b))
def COI (m : ZM) (g p s t NQ NA NB : Int) (h a b hw : Int) (mm : ZM) : Prop := (∀ c, (c < g ∨ g + 3 < c) → mm c = m c) ∧ mm g = m g ∧
  (∀ x y, 0 ≤ x → x < 5 → 0 ≤ y → y < NQ → (x = t ∧ y < hw → mm (g + 1) (zC p x y) = m (g + 1) (zC p s y)) ∧ (¬ (x = t ∧ y < hw) → mm (g + 1) (zC p x y) = m (g + 1) (zC p x y))) ∧
  (∀ x y i j, 0 ≤ x → x < 5 → 0 ≤ y → y < NQ → 0 ≤ i → i < NA → 0 ≤ j → j < NB → (coD t x y h i a j b → mm (g + 2) (zS p x y i j) = m (g + 2) (zS p s y i j) ∧ mm (g + 3) (zS p x y i j) = m (g + 3) (zS p s y i j)) ∧ (¬ coD t x y h i a j b → mm (g + 2) (zS p x y i j) = m (g + 2) (zS p x y i j) ∧ mm (g + 3) (zS p x y i j) = m (g + 3) (zS p x y i j)))
theorem COI_0 {m : ZM} {g p s t NQ NA NB : Int} : COI m g p s t NQ NA NB 0 0 0 0 m :=
  ⟨fun _ _ => rfl, rfl, fun x y h1 h2 h3 h4 => ⟨fun h => by omega, fun _ => rfl⟩, fun x y i j h1 h2 h3 h4 h5 h6 h7 h8 => ⟨fun h => by unfold coD at h; omega, fun _ => ⟨rfl, rfl⟩⟩⟩
theorem COI_cg {m mm : ZM} {g p s t NQ NA NB h a b h' a' b' hw : Int} (k : COI m g p s t NQ NA NB h a b hw mm) (e : ∀ x y i j, 0 ≤ y → y < NQ → 0 ≤ i → i < NA → 0 ≤ j → j < NB → (coD t x y h i a j b ↔ coD t x y h' i a' j b')) : COI m g p s t NQ NA NB h' a' b' hw mm :=
  ⟨k.1, k.2.1, k.2.2.1, fun x y i j h1 h2 h3 h4 h5 h6 h7 h8 => by rw [← e x y i j h3 h4 h5 h6 h7 h8]; exact k.2.2.2 x y i j h1 h2 h3 h4 h5 h6 h7 h8⟩
theorem COI_W {m mm : ZM} {g p s t NQ NA NB h : Int} (hq : NQ ≤ 5) (hs : 0 ≤ s ∧ s < 5) (ht : 0 ≤ t ∧ t < 5) (hst : s ≠ t) (hh : 0 ≤ h ∧ h < NQ) (k : COI m g p s t NQ NA NB h 0 0 h mm) : COI m g p s t NQ NA NB h 0 0 (h + 1) (zup mm (g + 1) (zC p t h) (mm (g + 1) (zC p s h))) := by
  have e := (k.2.2.1 s h hs.1 hs.2 hh.1 hh.2).2 (by omega)
  refine ⟨fun c hc => by rw [zup_off (by omega)]; exact k.1 c hc, by rw [zup_off (by omega)]; exact k.2.1, fun x y h1 h2 h3 h4 => ?_, fun x y i j h1 h2 h3 h4 h5 h6 h7 h8 => ?_⟩
  · rw [zup_at]
    have r := k.2.2.1 x y h1 h2 h3 h4
    rcases Classical.em (x = t ∧ y = h) with q | q
    · obtain ⟨q1, q2⟩ := q
      subst q1 q2
      refine ⟨fun _ => ?_, fun z => absurd ⟨rfl, by omega⟩ z⟩
      rw [gup_at, e]
    · rw [gup_off (fun z => q (zC_inj z ⟨h1, h2⟩ (by omega) ht (by omega)))]
      exact ⟨fun z => r.1 (by omega), fun z => r.2 (by omega)⟩
  · rw [zup_off (by omega), zup_off (by omega)]
    exact k.2.2.2 x y i j h1 h2 h3 h4 h5 h6 h7 h8
theorem COI_V {m mm : ZM} {g p s t NQ NA NB h a b hw : Int} (hq : NQ ≤ 5) (hA : NA ≤ 4) (hB : NB ≤ 4) (hs : 0 ≤ s ∧ s < 5) (ht : 0 ≤ t ∧ t < 5) (hst : s ≠ t) (hh : 0 ≤ h ∧ h < NQ) (ha : 0 ≤ a ∧ a < NA) (hb : 0 ≤ b ∧ b < NB) (k : COI m g p s t NQ NA NB h a b hw mm) : COI m g p s t NQ NA NB h a (b + 1) hw (zup (zup mm (g + 2) (zS p t h a b) (mm (g + 2) (zS p s h a b))) (g + 3) (zS p t h a b) (mm (g + 3) (zS p s h a b))) := by
  have e := (k.2.2.2 s h a b hs.1 hs.2 hh.1 hh.2 ha.1 ha.2 hb.1 hb.2).2 (fun z => hst z.1)
  refine ⟨fun c hc => by rw [zup_off (by omega), zup_off (by omega)]; exact k.1 c hc, by rw [zup_off (by omega), zup_off (by omega)]; exact k.2.1, fun x y h1 h2 h3 h4 => ?_, fun x y i j h1 h2 h3 h4 h5 h6 h7 h8 => ?_⟩
  · rw [zup_off (by omega), zup_off (by omega)]
    exact k.2.2.1 x y h1 h2 h3 h4
  · have r := k.2.2.2 x y i j h1 h2 h3 h4 h5 h6 h7 h8
    have x2 : (zup (zup mm (g + 2) (zS p t h a b) (mm (g + 2) (zS p s h a b))) (g + 3) (zS p t h a b) (mm (g + 3) (zS p s h a b))) (g + 2) = gup (mm (g + 2)) (zS p t h a b) (mm (g + 2) (zS p s h a b)) := by rw [zup_off (by omega), zup_at]
    have x3 : (zup (zup mm (g + 2) (zS p t h a b) (mm (g + 2) (zS p s h a b))) (g + 3) (zS p t h a b) (mm (g + 3) (zS p s h a b))) (g + 3) = gup (mm (g + 3)) (zS p t h a b) (mm (g + 3) (zS p s h a b)) := by rw [zup_at, zup_off (by omega)]
    rw [x2, x3]
    rcases Classical.em (x = t ∧ y = h ∧ i = a ∧ j = b) with q | q
    · obtain ⟨q1, q2, q3, q4⟩ := q
      subst q1 q2 q3 q4
      refine ⟨fun _ => ?_, fun z => absurd ⟨rfl, Or.inr ⟨rfl, Or.inr ⟨rfl, by omega⟩⟩⟩ z⟩
      rw [gup_at, gup_at, e.1, e.2]
      exact ⟨rfl, rfl⟩
    · have n : zS p x y i j ≠ zS p t h a b := fun z => q (zS_inj z ⟨h1, h2⟩ (by omega) (by omega) (by omega) ht (by omega) (by omega) (by omega))
      rw [gup_off n, gup_off n]
      exact ⟨fun z => r.1 (by unfold coD at z ⊢; omega), fun z => r.2 (by unfold coD at z ⊢; omega)⟩
/-- sizes alone -/
def GZ (kd : ZK) (m : ZM) (g : Int) (G : GR) : Prop := GS kd m g ∧ (m g 0 = G 0 ∧ m g 1 = G 1 ∧ m g 2 = G 2 ∧ m g 3 = G 3)
theorem CG.z {kd : ZK} {m : ZM} {g : Int} {G : GR} (h : CG kd m g G) : GZ kd m g G := ⟨h.1, h.2.1⟩
theorem GZ.frame {kd : ZK} {m mm : ZM} {g : Int} {G : GR} (h : GZ kd m g G) (e : mm g = m g) : GZ kd mm g G := by
  unfold GZ GS
  rw [e]; exact h
