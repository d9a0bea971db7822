/-! DUO, fourth: the span -/
def gSpan (G : GR) (y : Int) (r : Int → Int) : Int := zhi (G 3 - 1).toNat (fun b => wAt G 1 y b r) - zlo (G 3 - 1).toNat (fun b => wAt G 1 y b r)
theorem c_Duo_spanAt {d : Nat} {kd : ZK} {m : ZM} {g : Int} {G : GR} {y : Int} (hd : DU kd m) (hg : CG kd m g G) (ho : GOK G) (h3 : 1 ≤ G 3) (hy : 0 ≤ y ∧ y < G 1) (h1 : isRw G 0 (m 53)) : CtI (d + 5) M_Duo_spanAt [(2, 52), (2, g), (0, y)] kd m (qE m (gSpan G y (m 53))) := by
  have e0 := hg.2.1
  have h0 := ho.1
  have hw := fun b => wAt_in ho 1 y b (m 53)
  have hwa : ∀ b, 0 ≤ b → b < G 3 → CtI (d + 4) M_Duo_worthAt [(2, 52), (2, g), (0, 1), (0, y), (0, b)] kd m (qE m (wAt G 1 y b (m 53))) := fun b b1 b2 => c_Duo_worthAt hd hg ho (Or.inr rfl) hy ⟨b1, b2⟩ h1
  have L0 := zfor2 (G 3) (fun (b : Int) (s : Int) (t : Int) => Ev (d + 5) M_Duo_spanAt 0 0 15 [(2, 52), (2, g), (0, y), (0, s), (0, t), (0, b), zJ] [] kd m (zqI kd (qE m (gSpan G y (m 53))))) (fun (b : Int) (s : Int) (t : Int) => 1 ≤ b ∧ s = zhi (b - 1).toNat (fun b => wAt G 1 y b (m 53)) ∧ t = zlo (b - 1).toNat (fun b => wAt G 1 y b (m 53))) (by
    intro b s t hb hI0 KL0
    obtain ⟨hb0, hs, ht⟩ := hI0
    have k1 := zhi_bd (C := 45) (f := (fun b => wAt G 1 y b (m 53))) (b - 1).toNat (fun i _ _ => by have := hw i; omega)
    have k2 := zlo_bd (C := 45) (f := (fun b => wAt G 1 y b (m 53))) (b - 1).toNat (fun i _ _ => by have := hw i; omega)
    refine T_Duo_spanAt_15 ?_
    refine ⟨hg.1.1, ?_⟩
    refine ⟨fun c1 => ?_, fun c1 => ?_⟩
    · skip
      rw [iw_s (by omega) (by omega)]
      exact ⟨by rw [hs, ht, show b = G 3 by omega]; rfl, rfl⟩
    · skip
      refine ⟨hd.1.1, _, hwa b (by omega) (by omega), ?_⟩
      rintro _ _ ⟨rfl, rfl⟩
      rw [iw_s (x := b + 1) (by omega) (by omega)]
      have x1 := zhi_1 (i := b - 1) (by omega) (fun b => wAt G 1 y b (m 53))
      have x2 := zlo_1 (i := b - 1) (by omega) (fun b => wAt G 1 y b (m 53))
      rw [show b - 1 + 1 = b by omega] at x1 x2
      exact KL0 _ _ (by omega) ⟨by omega, by rw [show b + 1 - 1 = b by omega, x1, hs], by rw [show b + 1 - 1 = b by omega, x2, ht]⟩)
  refine S_Duo_spanAt ?_
  refine ⟨hd.1.1, _, hwa 0 (by omega) (by omega), ?_⟩
  rintro _ _ ⟨rfl, rfl⟩
  exact L0 1 _ _ (by omega) ⟨by omega, rfl, rfl⟩
