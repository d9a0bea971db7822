/-! GAME, ninth: becomeFlipped -/
theorem c_Game_becomeFlipped {d : Nat} {kd : ZK} {m : ZM} {g h : Int} {G : GR} (hs : GS kd m g) (hc : CG kd m h G) (ho : GOK G) (hd : g + 3 < h ∨ h + 3 < g) : CtV (d + 4) M_Game_becomeFlipped [(2, g), (2, h)] kd m (fun m1 => CG kd m1 g (opSwap G) ∧ ∀ c, (c < g ∨ g + 3 < c) → m1 c = m c) := by
  have h0 := ho.1
  have hne : h ≠ g := by omega
  have L0 := zfor1 (G 1) (fun (x : Int) (mm : ZM) => Ev (d + 4) M_Game_becomeFlipped 0 0 34 [(2, g), (2, h), (0, x), zJ] [] kd mm (zqV kd (fun m1 => CG kd m1 g (opSwap G) ∧ ∀ c, (c < g ∨ g + 3 < c) → m1 c = m c))) (fun (x : Int) (mm : ZM) => 0 ≤ x ∧ BFI kd m g G x 0 mm) (by
    intro x mm hb hI0 KL0
    obtain ⟨hx0, hB⟩ := hI0
    have e0 := hB.2.2.1
    have z1 := hB.2.1
    have hc1 : CG kd mm h G := hc.frame (fun c c1 c2 => hB.1 c (by omega))
    have L1 := zfor1 (G 0) (fun (y : Int) (mm : ZM) => Ev (d + 4) M_Game_becomeFlipped 0 0 44 [(2, g), (2, h), (0, x), (0, y)] [] kd mm (zqV kd (fun m1 => CG kd m1 g (opSwap G) ∧ ∀ c, (c < g ∨ g + 3 < c) → m1 c = m c))) (fun (y : Int) (mm : ZM) => 0 ≤ y ∧ x < G 1 ∧ BFI kd m g G x y mm) (by
      intro y mm hb hI1 KL1
      obtain ⟨hy0, hxl, hB⟩ := hI1
      have e0 := hB.2.2.1
      have z1 := hB.2.1
      have hc1 : CG kd mm h G := hc.frame (fun c c1 c2 => hB.1 c (by omega))
      refine U_Game_becomeFlipped_44 ?_
      refine ⟨z1.1, ?_⟩
      refine ⟨fun c1 => ?_, fun c1 => ?_⟩
      · skip
        rw [iw_s (x := x + 1) (by omega) (by omega)]
        exact KL0 mm (by omega) ⟨by omega, BFI_cg hB (fun u v h1 h2 h3 h4 => by omega)⟩
      · skip
        refine ⟨z1.1, ?_⟩
        refine ⟨_, c_Ap_cellOf (by omega) (by omega), ?_⟩
        rintro _ _ ⟨rfl, rfl⟩
        refine ⟨hc1.1.1, ?_⟩
        refine ⟨_, c_Ap_cellOf (by omega) (by omega), ?_⟩
        rintro _ _ ⟨rfl, rfl⟩
        refine ⟨(hc1.1.inW (zC_in (by omega) (by omega))), (z1.inW (zC_in (by omega) (by omega))), ?_⟩
        refine ⟨z1.1, _, c_Game_flipAnswers (hs := z1.frame (by rw [z1.2.1.1]; exact zup_off (by omega))) (hc := hc1.frame (fun c c1 c2 => by rw [z1.2.1.1]; exact zup_off (by omega))) ho hd (by rw [z1.2.1.1, zup_off (by omega)]; omega) ⟨by omega, by omega⟩ ⟨by omega, by omega⟩, ?_⟩
        rintro m9 hF
        rw [iw_s (x := y + 1) (by omega) (by omega)]
        rw [z1.2.1.1] at hF
        exact KL1 _ (by omega) ⟨by omega, hxl, BFI_1 ho ⟨hx0, hxl⟩ ⟨hy0, by omega⟩ (hc1.W (p := 1) (Or.inr rfl) (show 0 ≤ x ∧ x < G 1 by omega) (show 0 ≤ y ∧ y < G 0 by omega)) hB hF⟩)
    refine U_Game_becomeFlipped_34 ?_
    refine ⟨z1.1, ?_⟩
    refine ⟨fun c1 => ?_, fun c1 => ?_⟩
    · skip
      rw [show x = G 1 by omega] at hB
      exact BFI_fin ho hB
    · skip
      exact L1 0 mm (by omega) ⟨by omega, by omega, hB⟩)
  have key : ∀ m4 : ZM, (∀ c, c ≠ g → m4 c = m c) → (∀ j, 4 ≤ j → m4 g j = m g j) → (m4 g 0 = m h 1 ∧ m4 g 1 = m h 0 ∧ m4 g 2 = m h 3 ∧ m4 g 3 = m h 2) → Ev (d + 4) M_Game_becomeFlipped 0 0 32 [(2, g), (2, h), zJ, zJ] [] kd m4 (zqV kd (fun m1 => CG kd m1 g (opSwap G) ∧ ∀ c, (c < g ∨ g + 3 < c) → m1 c = m c)) := by
    intro m4 h1 h2 h3
    have hz := hc.2.1
    have gs : GS kd m4 g := by
      unfold GS
      rw [h2 4 (by omega), h2 5 (by omega), h2 6 (by omega)]
      exact hs
    refine U_Game_becomeFlipped_32 ?_
    exact L0 0 m4 (by omega) ⟨by omega, fun c hc => h1 c (by omega), gs, by omega, fun u v u1 u2 v1 v2 hh => by omega⟩
  refine US_Game_becomeFlipped ⟨hc.1.1, hs.1, ?_⟩
  refine U_Game_becomeFlipped_8 ⟨hc.1.1, hs.1, ?_⟩
  refine U_Game_becomeFlipped_16 ⟨hc.1.1, hs.1, ?_⟩
  refine U_Game_becomeFlipped_24 ⟨hc.1.1, hs.1, ?_⟩
  refine key _ (fun c hc => by rw [zup_off hc, zup_off hc, zup_off hc, zup_off hc]) (fun j hj => ?_) ?_
  · have j0 : j ≠ 0 := by omega
    have j1 : j ≠ 1 := by omega
    have j2 : j ≠ 2 := by omega
    have j3 : j ≠ 3 := by omega
    simp [zup, j0, j1, j2, j3]
  · simp [zup, hne]
