/-! GAME flipped as a whole: how far it is -/
def BFI (kd : ZK) (m : ZM) (g : Int) (G : GR) (x y : Int) (mm : ZM) : Prop := (∀ c, (c < g ∨ g + 3 < c) → mm c = m c) ∧ GS kd mm g ∧ (mm g 0 = G 1 ∧ mm g 1 = G 0 ∧ mm g 2 = G 3 ∧ mm g 3 = G 2) ∧
  (∀ u v, 0 ≤ u → u < G 1 → 0 ≤ v → v < G 0 → (u < x ∨ u = x ∧ v < y) → mm (g + 1) (zC 0 u v) = gW G v u ∧ ∀ i j, 0 ≤ i → i < G 3 → 0 ≤ j → j < G 2 → mm (g + 2) (zS 0 u v i j) = gV G v u j i ∧ mm (g + 3) (zS 0 u v i j) = gB G v u j i)
theorem BFI_cg {kd : ZK} {m mm : ZM} {g x y x' y' : Int} {G : GR} (k : BFI kd m g G x y mm) (e : ∀ u v, 0 ≤ u → 0 ≤ v → v < G 0 → (u < x' ∨ u = x' ∧ v < y') → (u < x ∨ u = x ∧ v < y)) : BFI kd m g G x' y' mm :=
  ⟨k.1, k.2.1, k.2.2.1, fun u v h1 h2 h3 h4 h5 => k.2.2.2 u v h1 h2 h3 h4 (e u v h1 h3 h4 h5)⟩
theorem BFI_1 {kd : ZK} {m mm m2 : ZM} {g x y w : Int} {G : GR} (ho : GOK G) (hx : 0 ≤ x ∧ x < G 1) (hy : 0 ≤ y ∧ y < G 0) (hw : w = gW G y x) (k : BFI kd m g G x y mm) (f : FLI G (zup mm (g + 1) (zC 0 x y) w) g x y (G 3) (G 2) (G 3) 0 m2) : BFI kd m g G x (y + 1) m2 := by
  have h0 := ho.1
  refine ⟨fun c hc => by rw [f.1 c hc, zup_off (by omega), k.1 c hc], ?_, ?_, fun u v h1 h2 h3 h4 h5 => ⟨?_, fun i j i1 i2 j1 j2 => ?_⟩⟩
  · exact k.2.1.frame (by rw [f.2.1, zup_off (by omega)])
  · rw [f.2.1, zup_off (by omega)]; exact k.2.2.1
  · rw [f.2.2.1, zup_at]
    rcases Classical.em (u = x ∧ v = y) with q | q
    · rw [q.1, q.2, gup_at, hw]
    · rw [gup_off (fun z => q (zC_inj z (by omega) (by omega) (by omega) (by omega)))]
      exact (k.2.2.2 u v h1 h2 h3 h4 (by omega)).1
  · have r := f.2.2.2 u v i j h1 (by omega) h3 (by omega) i1 i2 j1 j2
    rcases Classical.em (u = x ∧ v = y) with q | q
    · exact r.1 ⟨q.1, q.2, Or.inl i2⟩
    · have r2 := r.2 (fun z => q ⟨z.1, z.2.1⟩)
      have r3 := (k.2.2.2 u v h1 h2 h3 h4 (by omega)).2 i j i1 i2 j1 j2
      rw [r2.1, r2.2, zup_off (by omega), zup_off (by omega)]
      exact r3
theorem BFI_fin {kd : ZK} {m mm : ZM} {g : Int} {G : GR} (ho : GOK G) (k : BFI kd m g G (G 1) 0 mm) : CG kd mm g (opSwap G) ∧ ∀ c, (c < g ∨ g + 3 < c) → mm c = m c := by
  have h0 := ho.1
  exact ⟨CG_mk k.2.1 (by omega) (by omega) (by omega) (by omega) k.2.2.1 (fun x y h1 h2 h3 h4 => (k.2.2.2 x y h1 h2 h3 h4 (Or.inl h2)).1) (fun x y a b h1 h2 h3 h4 h5 h6 h7 h8 => (k.2.2.2 x y h1 h2 h3 h4 (Or.inl h2)).2 a b h5 h6 h7 h8), k.1⟩
