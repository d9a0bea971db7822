/-! GAME, eighth: flipped -/
theorem c_Game_flipAnswers {d : Nat} {kd : ZK} {m : ZM} {g h x y : Int} {G : GR} (hs : GS kd m g) (hc : CG kd m h G) (ho : GOK G) (hd : g + 3 < h ∨ h + 3 < g) (hz : m g 2 = G 3 ∧ m g 3 = G 2) (hx : 0 ≤ x ∧ x < G 1) (hy : 0 ≤ y ∧ y < G 0) : CtV (d + 3) M_Game_flipAnswers [(2, g), (2, h), (0, x), (0, y)] kd m (fun m1 => FLI G m g x y (G 3) (G 2) (G 3) 0 m1) := by
  have h0 := ho.1
  have L0 := zfor1 (G 3) (fun (a : Int) (mm : ZM) => Ev (d + 3) M_Game_flipAnswers 0 0 3 [(2, g), (2, h), (0, x), (0, y), (0, a), zJ, zJ, zJ] [] kd mm (zqV kd (fun m1 => FLI G m g x y (G 3) (G 2) (G 3) 0 m1))) (fun (a : Int) (mm : ZM) => 0 ≤ a ∧ FLI G m g x y (G 3) (G 2) a 0 mm) (by
    intro a mm hb hI0 KL0
    obtain ⟨ha0, hF⟩ := hI0
    have e0 : mm g 2 = G 3 ∧ mm g 3 = G 2 := by rw [hF.2.1]; exact hz
    have z1 : GS kd mm g := hs.frame hF.2.1
    have hc1 : CG kd mm h G := hc.frame (fun c c1 c2 => hF.1 c (by omega))
    have L1 := zfor1 (G 2) (fun (b : Int) (mm : ZM) => Ev (d + 3) M_Game_flipAnswers 0 0 15 [(2, g), (2, h), (0, x), (0, y), (0, a), (0, b), zJ, zJ] [] kd mm (zqV kd (fun m1 => FLI G m g x y (G 3) (G 2) (G 3) 0 m1))) (fun (b : Int) (mm : ZM) => 0 ≤ b ∧ a < G 3 ∧ FLI G m g x y (G 3) (G 2) a b mm) (by
      intro b mm hb hI1 KL1
      obtain ⟨hb0, hal, hF⟩ := hI1
      have e0 : mm g 2 = G 3 ∧ mm g 3 = G 2 := by rw [hF.2.1]; exact hz
      have z1 : GS kd mm g := hs.frame hF.2.1
      have hc1 : CG kd mm h G := hc.frame (fun c c1 c2 => hF.1 c (by omega))
      have zp := z1.2.1
      have yp := hc1.1.2.1
      refine T_Game_flipAnswers_15 ?_
      refine ⟨z1.1, ?_⟩
      refine ⟨fun c1 => ?_, fun c1 => ?_⟩
      · skip
        rw [iw_s (x := a + 1) (by omega) (by omega)]
        exact KL0 mm (by omega) ⟨by omega, FLI_cg hF (fun u v i j i1 i2 j1 j2 => by unfold flD; omega)⟩
      · skip
        refine ⟨_, c_Ap_spotOf (by omega) (by omega) (by omega) (by omega), ?_⟩
        rintro _ _ ⟨rfl, rfl⟩
        refine ⟨_, c_Ap_spotOf (by omega) (by omega) (by omega) (by omega), ?_⟩
        rintro _ _ ⟨rfl, rfl⟩
        refine ⟨z1.1, hc1.1.1, (hc1.1.inV (zS_in (by omega) (by omega) (by omega) (by omega))), (z1.inV (zS_in (by omega) (by omega) (by omega) (by omega))), z1.1, hc1.1.1, (by rw [zup_off (by have := z1.2.1; omega)]; exact hc1.1.inB (zS_in (by omega) (by omega) (by omega) (by omega))), (by rw [zup_off (by have := z1.2.1; omega)]; exact z1.inB (zS_in (by omega) (by omega) (by omega) (by omega))), ?_⟩
        rw [iw_s (x := b + 1) (by omega) (by omega)]
        have hV := hc1.VB (p := 1) (Or.inr rfl) (show 0 ≤ x ∧ x < G 1 by omega) (show 0 ≤ y ∧ y < G 0 by omega) (show 0 ≤ a ∧ a < G 3 by omega) (show 0 ≤ b ∧ b < G 2 by omega)
        rw [yp.2.1, yp.2.2] at hV
        have hF2 := FLI_1 (by omega) (by omega) ⟨by omega, by omega⟩ ⟨by omega, by omega⟩ ⟨ha0, hal⟩ ⟨hb0, (show b < G 2 by omega)⟩ hV.1 hV.2 hF
        have u1 : ∀ k v, (zup mm (g + 2) k v) g = mm g := fun k v => zup_off (by omega)
        have u2 : ∀ k v, (zup mm (g + 2) k v) h = mm h := fun k v => zup_off (by omega)
        have u3 : ∀ k v, (zup mm (g + 2) k v) (h + 3) = mm (h + 3) := fun k v => zup_off (by omega)
        simp only [zp.1, zp.2.1, zp.2.2, yp.1, yp.2.1, yp.2.2, u1, u2, u3]
        exact KL1 _ (by omega) ⟨by omega, by omega, hF2⟩)
    refine T_Game_flipAnswers_3 ?_
    refine ⟨z1.1, ?_⟩
    refine ⟨fun c1 => ?_, fun c1 => ?_⟩
    · skip
      rw [show a = G 3 by omega] at hF
      exact hF
    · skip
      exact L1 0 mm (by omega) ⟨by omega, by omega, hF⟩)
  refine S_Game_flipAnswers ?_
  exact L0 0 m (by omega) ⟨by omega, FLI_0⟩
