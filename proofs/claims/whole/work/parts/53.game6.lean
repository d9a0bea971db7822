/-! GAME, sixth: questions copied over, dropped, added; flipped -/
theorem z_Game_questionsOf {d : Nat} {kd : ZK} {m : ZM} {g : Int} {G : GR} {p : Int} (hz : GZ kd m g G) : CtI (d + 1) M_Game_questionsOf [(2, g), (0, p)] kd m (qE m (nQ G p)) := by
  have e0 := hz.2
  refine S_Game_questionsOf ?_
  refine ⟨fun c1 => ?_, fun c1 => ?_⟩
  · skip
    refine ⟨hz.1.1, ?_⟩
    refine ⟨?_, rfl⟩; unfold nQ; first | (rw [if_neg (by omega)]; omega) | (rw [if_pos (by omega)]; omega)
  · skip
    refine ⟨hz.1.1, ?_⟩
    refine ⟨?_, rfl⟩; unfold nQ; first | (rw [if_neg (by omega)]; omega) | (rw [if_pos (by omega)]; omega)
theorem z_Game_answersOf {d : Nat} {kd : ZK} {m : ZM} {g : Int} {G : GR} {p : Int} (hz : GZ kd m g G) : CtI (d + 1) M_Game_answersOf [(2, g), (0, p)] kd m (qE m (nA G p)) := by
  have e0 := hz.2
  refine S_Game_answersOf ?_
  refine ⟨fun c1 => ?_, fun c1 => ?_⟩
  · skip
    refine ⟨hz.1.1, ?_⟩
    refine ⟨?_, rfl⟩; unfold nA; first | (rw [if_neg (by omega)]; omega) | (rw [if_pos (by omega)]; omega)
  · skip
    refine ⟨hz.1.1, ?_⟩
    refine ⟨?_, rfl⟩; unfold nA; first | (rw [if_neg (by omega)]; omega) | (rw [if_pos (by omega)]; omega)
theorem c_Game_copyOver {d : Nat} {kd : ZK} {m : ZM} {g : Int} {G : GR} {p s t : Int} (hz : GZ kd m g G) (ho : GOK G) (hp : p = 0 ∨ p = 1) (hs : 0 ≤ s ∧ s < 5) (ht : 0 ≤ t ∧ t < 5) (hst : s ≠ t) : CtV (d + 3) M_Game_copyOver [(2, g), (0, p), (0, s), (0, t)] kd m (fun m1 => COI m g p s t (nQ G (1 - p)) (nA G p) (nA G (1 - p)) (nQ G (1 - p)) 0 0 (nQ G (1 - p)) m1) := by
  have q1 := ho.q p
  have q2 := ho.q (1 - p)
  have q3 := ho.a p
  have q4 := ho.a (1 - p)
  have ep : iw (1 - p) = 1 - p := iw_s (by omega) (by omega)
  have L0 := zfor1 (nQ G (1 - p)) (fun (h : Int) (mm : ZM) => Ev (d + 3) M_Game_copyOver 0 0 3 [(2, g), (0, p), (0, s), (0, t), (0, h), zJ, zJ, zJ, zJ] [] kd mm (zqV kd (fun m1 => COI m g p s t (nQ G (1 - p)) (nA G p) (nA G (1 - p)) (nQ G (1 - p)) 0 0 (nQ G (1 - p)) m1))) (fun (h : Int) (mm : ZM) => 0 ≤ h ∧ COI m g p s t (nQ G (1 - p)) (nA G p) (nA G (1 - p)) h 0 0 h mm) (by
    intro h mm hb hI0 KL0
    obtain ⟨hh0, hC0⟩ := hI0
    have z0 := hz.frame hC0.2.1
    have L1 := zfor1 (nA G p) (fun (a : Int) (mm : ZM) => Ev (d + 3) M_Game_copyOver 0 0 42 [(2, g), (0, p), (0, s), (0, t), (0, h), (0, a), zJ, zJ, zJ] [] kd mm (zqV kd (fun m1 => COI m g p s t (nQ G (1 - p)) (nA G p) (nA G (1 - p)) (nQ G (1 - p)) 0 0 (nQ G (1 - p)) m1))) (fun (a : Int) (mm : ZM) => 0 ≤ a ∧ h < nQ G (1 - p) ∧ COI m g p s t (nQ G (1 - p)) (nA G p) (nA G (1 - p)) h a 0 (h + 1) mm) (by
      intro a mm hb hI1 KL1
      obtain ⟨ha0, hhl, hC1⟩ := hI1
      have z1 := hz.frame hC1.2.1
      have L2 := zfor1 (nA G (1 - p)) (fun (b : Int) (mm : ZM) => Ev (d + 3) M_Game_copyOver 0 0 55 [(2, g), (0, p), (0, s), (0, t), (0, h), (0, a), (0, b), zJ, zJ] [] kd mm (zqV kd (fun m1 => COI m g p s t (nQ G (1 - p)) (nA G p) (nA G (1 - p)) (nQ G (1 - p)) 0 0 (nQ G (1 - p)) m1))) (fun (b : Int) (mm : ZM) => 0 ≤ b ∧ a < nA G p ∧ COI m g p s t (nQ G (1 - p)) (nA G p) (nA G (1 - p)) h a b (h + 1) mm) (by
        intro b mm hb hI2 KL2
        obtain ⟨hb0, hal, hC2⟩ := hI2
        have z2 := hz.frame hC2.2.1
        have zp := z2.1.2.1
        refine T_Game_copyOver_55 ?_
        simp only [ep]
        refine ⟨z2.1.1, _, z_Game_answersOf z2, ?_⟩
        rintro _ _ ⟨rfl, rfl⟩
        refine ⟨fun c1 => ?_, fun c1 => ?_⟩
        · try simp only [zb_eq0, zb_ne0] at c1
          rw [iw_s (x := a + 1) (by omega) (by omega)]
          exact KL1 _ (by omega) ⟨by omega, hhl, COI_cg hC2 (fun x y i j y1 y2 i1 i2 j1 j2 => by unfold coD; omega)⟩
        · try simp only [zb_eq0, zb_ne0] at c1
          refine ⟨_, c_Ap_spotOf (by omega) (by omega) (by omega) (by omega), ?_⟩
          rintro _ _ ⟨rfl, rfl⟩
          refine ⟨_, c_Ap_spotOf (by omega) (by omega) (by omega) (by omega), ?_⟩
          rintro _ _ ⟨rfl, rfl⟩
          refine ⟨z2.1.1, z2.1.1, z2.1.inV (zS_in (by omega) (by omega) (by omega) (by omega)), z2.1.inV (zS_in (by omega) (by omega) (by omega) (by omega)), z2.1.1, z2.1.1, (by rw [zup_off (by have := z2.1.2.1; omega)]; exact z2.1.inB (zS_in (by omega) (by omega) (by omega) (by omega))), (by rw [zup_off (by have := z2.1.2.1; omega)]; exact z2.1.inB (zS_in (by omega) (by omega) (by omega) (by omega))), ?_⟩
          rw [iw_s (x := b + 1) (by omega) (by omega)]
          have hC3 := COI_V (by omega) (by omega) (by omega) hs ht hst ⟨hh0, hhl⟩ ⟨ha0, hal⟩ ⟨hb0, (show b < nA G (1 - p) by omega)⟩ hC2
          have u1 : ∀ k v, (zup mm (g + 2) k v) g = mm g := fun k v => zup_off (by omega)
          have u2 : ∀ k v, (zup mm (g + 2) k v) (g + 3) = mm (g + 3) := fun k v => zup_off (by omega)
          simp only [zp.1, zp.2.1, zp.2.2, u1, u2]
          exact KL2 _ (by omega) ⟨by omega, by omega, hC3⟩)
      refine T_Game_copyOver_42 ?_
      refine ⟨z1.1.1, _, z_Game_answersOf z1, ?_⟩
      rintro _ _ ⟨rfl, rfl⟩
      refine ⟨fun c1 => ?_, fun c1 => ?_⟩
      · try simp only [zb_eq0, zb_ne0] at c1
        rw [iw_s (x := h + 1) (by omega) (by omega)]
        exact KL0 _ (by omega) ⟨by omega, COI_cg hC1 (fun x y i j y1 y2 i1 i2 j1 j2 => by unfold coD; omega)⟩
      · try simp only [zb_eq0, zb_ne0] at c1
        exact L2 0 _ (by omega) ⟨by omega, by omega, hC1⟩)
    refine T_Game_copyOver_3 ?_
    simp only [ep]
    refine ⟨z0.1.1, _, z_Game_questionsOf z0, ?_⟩
    rintro _ _ ⟨rfl, rfl⟩
    refine ⟨fun c1 => ?_, fun c1 => ?_⟩
    · try simp only [zb_eq0, zb_ne0] at c1
      rw [show h = nQ G (1 - p) by omega] at hC0
      exact hC0
    · try simp only [zb_eq0, zb_ne0] at c1
      refine ⟨z0.1.1, ?_⟩
      refine ⟨_, c_Ap_cellOf (by omega) (by omega), ?_⟩
      rintro _ _ ⟨rfl, rfl⟩
      refine ⟨z0.1.1, ?_⟩
      refine ⟨_, c_Ap_cellOf (by omega) (by omega), ?_⟩
      rintro _ _ ⟨rfl, rfl⟩
      refine ⟨z0.1.inW (zC_in (by omega) (by omega)), z0.1.inW (zC_in (by omega) (by omega)), ?_⟩
      rw [z0.1.2.1.1]
      exact L1 0 _ (by omega) ⟨by omega, by omega, COI_W (by omega) hs ht hst ⟨hh0, by omega⟩ hC0⟩)
  refine S_Game_copyOver ?_
  exact L0 0 m (by omega) ⟨by omega, COI_0⟩
