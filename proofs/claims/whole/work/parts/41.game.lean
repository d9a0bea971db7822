/-! GAME: what its methods answer -/
theorem c_Ap_spotOf {d : Nat} {kd : ZK} {m : ZM} {p x y a b : Int} (hx : 0 ≤ x ∧ x < 5) (hy : 0 ≤ y ∧ y < 5) (ha : 0 ≤ a ∧ a < 4) (hb : 0 ≤ b ∧ b < 4) : CtI (d + 2) M_Ap_spotOf [(0, p), (0, x), (0, y), (0, a), (0, b)] kd m (qE m (zS p x y a b)) := by
  refine S_Ap_spotOf ?_
  refine ⟨fun c1 => ?_, fun c1 => ?_⟩
  · skip
    refine ⟨?_, rfl⟩
    rw [iw_s (x := y * 5) (by omega) (by omega), iw_s (x := y * 5 + x) (by omega) (by omega), iw_s (x := (y * 5 + x) * 4) (by omega) (by omega), iw_s (x := (y * 5 + x) * 4 + b) (by omega) (by omega), iw_s (x := ((y * 5 + x) * 4 + b) * 4) (by omega) (by omega), iw_s (x := ((y * 5 + x) * 4 + b) * 4 + a) (by omega) (by omega)]
    unfold zS zC
    rw [if_neg (by omega), if_neg (by omega)]
    omega
  · skip
    refine ⟨?_, rfl⟩
    rw [iw_s (x := x * 5) (by omega) (by omega), iw_s (x := x * 5 + y) (by omega) (by omega), iw_s (x := (x * 5 + y) * 4) (by omega) (by omega), iw_s (x := (x * 5 + y) * 4 + a) (by omega) (by omega), iw_s (x := ((x * 5 + y) * 4 + a) * 4) (by omega) (by omega), iw_s (x := ((x * 5 + y) * 4 + a) * 4 + b) (by omega) (by omega)]
    unfold zS zC
    rw [if_pos (by omega), if_pos (by omega)]
    omega
theorem c_Game_isTold {d : Nat} {kd : ZK} {m : ZM} {g : Int} {G : GR} (hg : CG kd m g G) : CtI (d + 1) M_Game_isTold [(2, g)] kd m (qE m (zb (0 < G 0))) := by
  have e0 := hg.2.1
  refine S_Game_isTold ?_
  refine ⟨hg.1.1, ?_⟩
  refine ⟨fun c1 => ?_, fun c1 => ?_⟩
  · skip
    first | exact ⟨(zb_f (by omega)).symm, rfl⟩ | exact ⟨(zb_t (by omega)).symm, rfl⟩
  · skip
    first | exact ⟨(zb_f (by omega)).symm, rfl⟩ | exact ⟨(zb_t (by omega)).symm, rfl⟩
theorem c_Game_questionsOf {d : Nat} {kd : ZK} {m : ZM} {g : Int} {G : GR} {p : Int} (hg : CG kd m g G) : CtI (d + 1) M_Game_questionsOf [(2, g), (0, p)] kd m (qE m (nQ G p)) := by
  have e0 := hg.2.1
  refine S_Game_questionsOf ?_
  refine ⟨fun c1 => ?_, fun c1 => ?_⟩
  · skip
    refine ⟨hg.1.1, ?_⟩
    refine ⟨?_, rfl⟩; unfold nQ; first | (rw [if_neg (by omega)]; omega) | (rw [if_pos (by omega)]; omega)
  · skip
    refine ⟨hg.1.1, ?_⟩
    refine ⟨?_, rfl⟩; unfold nQ; first | (rw [if_neg (by omega)]; omega) | (rw [if_pos (by omega)]; omega)
theorem c_Game_answersOf {d : Nat} {kd : ZK} {m : ZM} {g : Int} {G : GR} {p : Int} (hg : CG kd m g G) : CtI (d + 1) M_Game_answersOf [(2, g), (0, p)] kd m (qE m (nA G p)) := by
  have e0 := hg.2.1
  refine S_Game_answersOf ?_
  refine ⟨fun c1 => ?_, fun c1 => ?_⟩
  · skip
    refine ⟨hg.1.1, ?_⟩
    refine ⟨?_, rfl⟩; unfold nA; first | (rw [if_neg (by omega)]; omega) | (rw [if_pos (by omega)]; omega)
  · skip
    refine ⟨hg.1.1, ?_⟩
    refine ⟨?_, rfl⟩; unfold nA; first | (rw [if_neg (by omega)]; omega) | (rw [if_pos (by omega)]; omega)
/-- x is a question of p, an answer of p -/
abbrev isQ (G : GR) (p n : Int) : Prop := (p = 0 ∨ p = 1) ∧ 0 ≤ n ∧ n < nQ G p
abbrev isA (G : GR) (p n : Int) : Prop := (p = 0 ∨ p = 1) ∧ 0 ≤ n ∧ n < nA G p
theorem c_Game_hasQuestion {d : Nat} {kd : ZK} {m : ZM} {g : Int} {G : GR} {p n : Int} (hg : CG kd m g G) : CtI (d + 2) M_Game_hasQuestion [(2, g), (0, p), (0, n)] kd m (qE m (zb (isQ G p n))) := by
  refine S_Game_hasQuestion ?_
  refine ⟨_, c_Ap_isPlayer, ?_⟩
  rintro _ _ ⟨rfl, rfl⟩
  refine ⟨fun c1 => ?_, fun c1 => ?_⟩
  · try simp only [zb_eq0, zb_ne0] at c1
    first | exact ⟨(zb_f (by omega)).symm, rfl⟩ | exact ⟨(zb_t (by omega)).symm, rfl⟩
  · try simp only [zb_eq0, zb_ne0] at c1
    refine ⟨fun c2 => ?_, fun c2 => ?_⟩
    · skip
      first | exact ⟨(zb_f (by omega)).symm, rfl⟩ | exact ⟨(zb_t (by omega)).symm, rfl⟩
    · skip
      refine ⟨hg.1.1, _, c_Game_questionsOf hg, ?_⟩
      rintro _ _ ⟨rfl, rfl⟩
      refine ⟨fun c3 => ?_, fun c3 => ?_⟩
      · try simp only [zb_eq0, zb_ne0] at c3
        first | exact ⟨(zb_f (by omega)).symm, rfl⟩ | exact ⟨(zb_t (by omega)).symm, rfl⟩
      · try simp only [zb_eq0, zb_ne0] at c3
        first | exact ⟨(zb_f (by omega)).symm, rfl⟩ | exact ⟨(zb_t (by omega)).symm, rfl⟩
theorem c_Game_hasAnswer {d : Nat} {kd : ZK} {m : ZM} {g : Int} {G : GR} {p n : Int} (hg : CG kd m g G) : CtI (d + 2) M_Game_hasAnswer [(2, g), (0, p), (0, n)] kd m (qE m (zb (isA G p n))) := by
  refine S_Game_hasAnswer ?_
  refine ⟨_, c_Ap_isPlayer, ?_⟩
  rintro _ _ ⟨rfl, rfl⟩
  refine ⟨fun c1 => ?_, fun c1 => ?_⟩
  · try simp only [zb_eq0, zb_ne0] at c1
    first | exact ⟨(zb_f (by omega)).symm, rfl⟩ | exact ⟨(zb_t (by omega)).symm, rfl⟩
  · try simp only [zb_eq0, zb_ne0] at c1
    refine ⟨fun c2 => ?_, fun c2 => ?_⟩
    · skip
      first | exact ⟨(zb_f (by omega)).symm, rfl⟩ | exact ⟨(zb_t (by omega)).symm, rfl⟩
    · skip
      refine ⟨hg.1.1, _, c_Game_answersOf hg, ?_⟩
      rintro _ _ ⟨rfl, rfl⟩
      refine ⟨fun c3 => ?_, fun c3 => ?_⟩
      · try simp only [zb_eq0, zb_ne0] at c3
        first | exact ⟨(zb_f (by omega)).symm, rfl⟩ | exact ⟨(zb_t (by omega)).symm, rfl⟩
      · try simp only [zb_eq0, zb_ne0] at c3
        first | exact ⟨(zb_f (by omega)).symm, rfl⟩ | exact ⟨(zb_t (by omega)).symm, rfl⟩
theorem c_Game_hasTwoAnswers {d : Nat} {kd : ZK} {m : ZM} {g : Int} {G : GR} {p x a b : Int} (hg : CG kd m g G) : CtI (d + 3) M_Game_hasTwoAnswers [(2, g), (0, p), (0, x), (0, a), (0, b)] kd m (qE m (zb (isQ G p x ∧ isA G p a ∧ isA G p b ∧ a ≠ b))) := by
  refine S_Game_hasTwoAnswers ?_
  refine ⟨hg.1.1, _, c_Game_hasQuestion hg, ?_⟩
  rintro _ _ ⟨rfl, rfl⟩
  refine ⟨fun c1 => ?_, fun c1 => ?_⟩
  · try simp only [zb_eq0, zb_ne0] at c1
    first | exact ⟨(zb_f (by omega)).symm, rfl⟩ | exact ⟨(zb_t (by omega)).symm, rfl⟩
  · try simp only [zb_eq0, zb_ne0] at c1
    refine ⟨hg.1.1, _, c_Game_hasAnswer hg, ?_⟩
    rintro _ _ ⟨rfl, rfl⟩
    refine ⟨fun c2 => ?_, fun c2 => ?_⟩
    · try simp only [zb_eq0, zb_ne0] at c2
      first | exact ⟨(zb_f (by omega)).symm, rfl⟩ | exact ⟨(zb_t (by omega)).symm, rfl⟩
    · try simp only [zb_eq0, zb_ne0] at c2
      refine ⟨hg.1.1, _, c_Game_hasAnswer hg, ?_⟩
      rintro _ _ ⟨rfl, rfl⟩
      refine ⟨fun c3 => ?_, fun c3 => ?_⟩
      · try simp only [zb_eq0, zb_ne0] at c3
        first | exact ⟨(zb_f (by omega)).symm, rfl⟩ | exact ⟨(zb_t (by omega)).symm, rfl⟩
      · try simp only [zb_eq0, zb_ne0] at c3
        refine ⟨fun c4 => ?_, fun c4 => ?_⟩
        · skip
          first | exact ⟨(zb_f (by omega)).symm, rfl⟩ | exact ⟨(zb_t (by omega)).symm, rfl⟩
        · skip
          first | exact ⟨(zb_f (by omega)).symm, rfl⟩ | exact ⟨(zb_t (by omega)).symm, rfl⟩
theorem c_Game_hasCell {d : Nat} {kd : ZK} {m : ZM} {g : Int} {G : GR} {x y : Int} (hg : CG kd m g G) : CtI (d + 3) M_Game_hasCell [(2, g), (0, x), (0, y)] kd m (qE m (zb (isQ G 0 x ∧ isQ G 1 y))) := by
  refine S_Game_hasCell ?_
  refine ⟨hg.1.1, _, c_Game_hasQuestion hg, ?_⟩
  rintro _ _ ⟨rfl, rfl⟩
  refine ⟨fun c1 => ?_, fun c1 => ?_⟩
  · try simp only [zb_eq0, zb_ne0] at c1
    first | exact ⟨(zb_f (by omega)).symm, rfl⟩ | exact ⟨(zb_t (by omega)).symm, rfl⟩
  · try simp only [zb_eq0, zb_ne0] at c1
    refine ⟨hg.1.1, _, c_Game_hasQuestion hg, ?_⟩
    rintro _ _ ⟨rfl, rfl⟩
    refine ⟨fun c2 => ?_, fun c2 => ?_⟩
    · try simp only [zb_eq0, zb_ne0] at c2
      first | exact ⟨(zb_f (by omega)).symm, rfl⟩ | exact ⟨(zb_t (by omega)).symm, rfl⟩
    · try simp only [zb_eq0, zb_ne0] at c2
      first | exact ⟨(zb_f (by omega)).symm, rfl⟩ | exact ⟨(zb_t (by omega)).symm, rfl⟩
theorem c_Game_hasSpot {d : Nat} {kd : ZK} {m : ZM} {g : Int} {G : GR} {x y a b : Int} (hg : CG kd m g G) : CtI (d + 4) M_Game_hasSpot [(2, g), (0, x), (0, y), (0, a), (0, b)] kd m (qE m (zb ((isQ G 0 x ∧ isQ G 1 y) ∧ isA G 0 a ∧ isA G 1 b))) := by
  refine S_Game_hasSpot ?_
  refine ⟨hg.1.1, _, c_Game_hasCell hg, ?_⟩
  rintro _ _ ⟨rfl, rfl⟩
  refine ⟨fun c1 => ?_, fun c1 => ?_⟩
  · try simp only [zb_eq0, zb_ne0] at c1
    first | exact ⟨(zb_f (by omega)).symm, rfl⟩ | exact ⟨(zb_t (by omega)).symm, rfl⟩
  · try simp only [zb_eq0, zb_ne0] at c1
    refine ⟨hg.1.1, _, c_Game_hasAnswer hg, ?_⟩
    rintro _ _ ⟨rfl, rfl⟩
    refine ⟨fun c2 => ?_, fun c2 => ?_⟩
    · try simp only [zb_eq0, zb_ne0] at c2
      first | exact ⟨(zb_f (by omega)).symm, rfl⟩ | exact ⟨(zb_t (by omega)).symm, rfl⟩
    · try simp only [zb_eq0, zb_ne0] at c2
      refine ⟨hg.1.1, _, c_Game_hasAnswer hg, ?_⟩
      rintro _ _ ⟨rfl, rfl⟩
      refine ⟨fun c3 => ?_, fun c3 => ?_⟩
      · try simp only [zb_eq0, zb_ne0] at c3
        first | exact ⟨(zb_f (by omega)).symm, rfl⟩ | exact ⟨(zb_t (by omega)).symm, rfl⟩
      · try simp only [zb_eq0, zb_ne0] at c3
        first | exact ⟨(zb_f (by omega)).symm, rfl⟩ | exact ⟨(zb_t (by omega)).symm, rfl⟩
theorem c_Game_gain {d : Nat} {kd : ZK} {m : ZM} {g : Int} {G : GR} {p x y a b : Int} (hg : CG kd m g G) (ho : GOK G) (hp : p = 0 ∨ p = 1) (hx : 0 ≤ x ∧ x < nQ G p) (hy : 0 ≤ y ∧ y < nQ G (1 - p)) (ha : 0 ≤ a ∧ a < nA G p) (hb : 0 ≤ b ∧ b < nA G (1 - p)) : CtI (d + 3) M_Game_gain [(2, g), (0, p), (0, x), (0, y), (0, a), (0, b)] kd m (qE m (pW G p x y * pV G p x y a b)) := by
  have q1 := ho.q p
  have q2 := ho.q (1 - p)
  have q3 := ho.a p
  have q4 := ho.a (1 - p)
  refine S_Game_gain ?_
  refine ⟨hg.1.1, ?_⟩
  refine ⟨_, c_Ap_cellOf (by omega) (by omega), ?_⟩
  rintro _ _ ⟨rfl, rfl⟩
  refine ⟨hg.1.inW (zC_in (by omega) (by omega)), hg.1.1, ?_⟩
  refine ⟨_, c_Ap_spotOf (by omega) (by omega) (by omega) (by omega), ?_⟩
  rintro _ _ ⟨rfl, rfl⟩
  refine ⟨hg.1.inV (zS_in (by omega) (by omega) (by omega) (by omega)), ?_⟩
  refine ⟨?_, rfl⟩
  rw [hg.W hp hx hy, (hg.VB hp hx hy ha hb).1]
  have h1 := ho.WV p x y a b
  exact iw_s (by omega) (by omega)
def sW (G : GR) : Int := zsum (G 0).toNat fun x => zsum (G 1).toNat fun y => gW G x y
theorem c_Game_weightTogether {d : Nat} {kd : ZK} {m : ZM} {g : Int} {G : GR} (hg : CG kd m g G) (ho : GOK G) : CtI (d + 2) M_Game_weightTogether [(2, g)] kd m (qE m (sW G)) := by
  have e0 := hg.2.1
  have h0 := ho.1
  have hF1 : ∀ x y : Int, 0 ≤ gW G x y ∧ gW G x y ≤ 9 := fun x y => ho.gW x y
  have hF0 : ∀ x : Int, 0 ≤ zsum (G 1).toNat (fun y => gW G x y) ∧ zsum (G 1).toNat (fun y => gW G x y) ≤ 45 := fun x => by
    have := zsum_le (C := 9) (f := fun y => gW G x y) (by decide) (hF1 x) (G 1).toNat
    omega
  have L0 := zfor1 (G 0) (fun (x : Int) (t0 : Int) => Ev (d + 2) M_Game_weightTogether 0 0 4 [(2, g), (0, t0), (0, x), zJ] [] kd m (zqI kd (qE m (sW G)))) (fun (x : Int) (t0 : Int) => 0 ≤ x ∧ t0 = 0 + zsum x.toNat (fun x => zsum (G 1).toNat (fun y => gW G x y))) (by
    intro x t0 hb hI KL0
    obtain ⟨hx0, ht0⟩ := hI
    have hs0 := zsum_le (C := 45) (f := fun x => zsum (G 1).toNat (fun y => gW G x y)) (by decide) (hF0) x.toNat
    have L1 := zfor1 (G 1) (fun (y : Int) (t1 : Int) => Ev (d + 2) M_Game_weightTogether 0 0 14 [(2, g), (0, t1), (0, x), (0, y)] [] kd m (zqI kd (qE m (sW G)))) (fun (y : Int) (t1 : Int) => 0 ≤ y ∧ x < G 0 ∧ t1 = t0 + zsum y.toNat (fun y => gW G x y)) (by
      intro y t1 hb hI KL1
      obtain ⟨hy0, hxlt, ht1⟩ := hI
      have hs1 := zsum_le (C := 9) (f := fun y => gW G x y) (by decide) (hF1 x) y.toNat
      refine T_Game_weightTogether_14 ?_
      refine ⟨hg.1.1, ?_⟩
      refine ⟨fun c1 => ?_, fun c1 => ?_⟩
      · skip
        have ey : y = G 1 := by omega
        rw [iw_s (x := x + 1) (by omega) (by omega)]
        refine KL0 _ (by omega) ⟨by omega, ?_⟩
        rw [zsum_1 hx0, ht1, ey]; omega
      · skip
        refine ⟨hg.1.1, ?_⟩
        refine ⟨_, c_Ap_cellOf (by omega) (by omega), ?_⟩
        rintro _ _ ⟨rfl, rfl⟩
        refine ⟨hg.1.inW (zC_in (by omega) (by omega)), ?_⟩
        have hw := ho.gW x y
        rw [iw_s (x := y + 1) (by omega) (by omega), hg.W0 ⟨by omega, by omega⟩ ⟨by omega, by omega⟩]
        rw [iw_s (by omega) (by omega)]
        refine KL1 _ (by omega) ⟨by omega, by omega, ?_⟩
        rw [zsum_1 hy0]; omega)
    refine T_Game_weightTogether_4 ?_
    refine ⟨hg.1.1, ?_⟩
    refine ⟨fun c1 => ?_, fun c1 => ?_⟩
    · skip
      exact ⟨by rw [ht0, show x = G 0 by omega]; simp only [Int.zero_add]; rfl, rfl⟩
    · skip
      exact L1 0 t0 (by omega) ⟨by omega, by omega, by rw [zsum_0]; omega⟩)
  refine S_Game_weightTogether ?_
  exact L0 0 0 (by omega) ⟨by omega, by rw [zsum_0]; rfl⟩
def sVat (G : GR) (x y : Int) : Int := zsum (G 2).toNat fun a => zsum (G 3).toNat fun b => gV G x y a b
theorem c_Game_winningAt {d : Nat} {kd : ZK} {m : ZM} {g : Int} {G : GR} {x y : Int} (hg : CG kd m g G) (ho : GOK G) (hx : 0 ≤ x ∧ x < G 0) (hy : 0 ≤ y ∧ y < G 1) : CtI (d + 3) M_Game_winningAt [(2, g), (0, x), (0, y)] kd m (qE m (sVat G x y)) := by
  have e0 := hg.2.1
  have h0 := ho.1
  have hF1 : ∀ a b : Int, 0 ≤ gV G x y a b ∧ gV G x y a b ≤ 1 := fun a b => ho.gV x y a b
  have hF0 : ∀ a : Int, 0 ≤ zsum (G 3).toNat (fun b => gV G x y a b) ∧ zsum (G 3).toNat (fun b => gV G x y a b) ≤ 4 := fun a => by
    have := zsum_le (C := 1) (f := fun b => gV G x y a b) (by decide) (hF1 a) (G 3).toNat
    omega
  have L0 := zfor1 (G 2) (fun (a : Int) (t0 : Int) => Ev (d + 3) M_Game_winningAt 0 0 5 [(2, g), (0, x), (0, y), (0, t0), (0, a), zJ] [] kd m (zqI kd (qE m (sVat G x y)))) (fun (a : Int) (t0 : Int) => 0 ≤ a ∧ t0 = 0 + zsum a.toNat (fun a => zsum (G 3).toNat (fun b => gV G x y a b))) (by
    intro a t0 hb hI KL0
    obtain ⟨ha0, ht0⟩ := hI
    have hs0 := zsum_le (C := 4) (f := fun a => zsum (G 3).toNat (fun b => gV G x y a b)) (by decide) (hF0) a.toNat
    have L1 := zfor1 (G 3) (fun (b : Int) (t1 : Int) => Ev (d + 3) M_Game_winningAt 0 0 17 [(2, g), (0, x), (0, y), (0, t1), (0, a), (0, b)] [] kd m (zqI kd (qE m (sVat G x y)))) (fun (b : Int) (t1 : Int) => 0 ≤ b ∧ a < G 2 ∧ t1 = t0 + zsum b.toNat (fun b => gV G x y a b)) (by
      intro b t1 hb hI KL1
      obtain ⟨hb0, halt, ht1⟩ := hI
      have hs1 := zsum_le (C := 1) (f := fun b => gV G x y a b) (by decide) (hF1 a) b.toNat
      refine T_Game_winningAt_17 ?_
      refine ⟨hg.1.1, ?_⟩
      refine ⟨fun c1 => ?_, fun c1 => ?_⟩
      · skip
        have ey : b = G 3 := by omega
        rw [iw_s (x := a + 1) (by omega) (by omega)]
        refine KL0 _ (by omega) ⟨by omega, ?_⟩
        rw [zsum_1 ha0, ht1, ey]; omega
      · skip
        refine ⟨hg.1.1, ?_⟩
        refine ⟨_, c_Ap_spotOf (by omega) (by omega) (by omega) (by omega), ?_⟩
        rintro _ _ ⟨rfl, rfl⟩
        refine ⟨hg.1.inV (zS_in (by omega) (by omega) (by omega) (by omega)), ?_⟩
        have hw := ho.gV x y a b
        rw [iw_s (x := b + 1) (by omega) (by omega), hg.V0 ⟨by omega, by omega⟩ ⟨by omega, by omega⟩ ⟨by omega, by omega⟩ ⟨by omega, by omega⟩]
        rw [iw_s (by omega) (by omega)]
        refine KL1 _ (by omega) ⟨by omega, by omega, ?_⟩
        rw [zsum_1 hb0]; omega)
    refine T_Game_winningAt_5 ?_
    refine ⟨hg.1.1, ?_⟩
    refine ⟨fun c1 => ?_, fun c1 => ?_⟩
    · skip
      exact ⟨by rw [ht0, show a = G 2 by omega]; simp only [Int.zero_add]; rfl, rfl⟩
    · skip
      exact L1 0 t0 (by omega) ⟨by omega, by omega, by rw [zsum_0]; omega⟩)
  refine S_Game_winningAt ?_
  exact L0 0 0 (by omega) ⟨by omega, by rw [zsum_0]; rfl⟩
theorem sVat_in {G : GR} (ho : GOK G) (x y : Int) : 0 ≤ sVat G x y ∧ sVat G x y ≤ 16 := by
  have h0 := ho.1
  have h := zsum_le (C := 4) (f := fun a => zsum (G 3).toNat (fun b => gV G x y a b)) (by decide) (fun a => by
    have := zsum_le (C := 1) (f := fun b => gV G x y a b) (by decide) (fun b => ho.gV x y a b) (G 3).toNat
    omega) (G 2).toNat
  unfold sVat
  omega
def sV (G : GR) : Int := zsum (G 0).toNat fun x => zsum (G 1).toNat fun y => sVat G x y
theorem c_Game_winningSpots {d : Nat} {kd : ZK} {m : ZM} {g : Int} {G : GR} (hg : CG kd m g G) (ho : GOK G) : CtI (d + 4) M_Game_winningSpots [(2, g)] kd m (qE m (sV G)) := by
  have e0 := hg.2.1
  have h0 := ho.1
  have hF1 : ∀ x y : Int, 0 ≤ sVat G x y ∧ sVat G x y ≤ 16 := fun x y => sVat_in ho x y
  have hF0 : ∀ x : Int, 0 ≤ zsum (G 1).toNat (fun y => sVat G x y) ∧ zsum (G 1).toNat (fun y => sVat G x y) ≤ 80 := fun x => by
    have := zsum_le (C := 16) (f := fun y => sVat G x y) (by decide) (hF1 x) (G 1).toNat
    omega
  have L0 := zfor1 (G 0) (fun (x : Int) (t0 : Int) => Ev (d + 4) M_Game_winningSpots 0 0 4 [(2, g), (0, t0), (0, x), zJ] [] kd m (zqI kd (qE m (sV G)))) (fun (x : Int) (t0 : Int) => 0 ≤ x ∧ t0 = 0 + zsum x.toNat (fun x => zsum (G 1).toNat (fun y => sVat G x y))) (by
    intro x t0 hb hI KL0
    obtain ⟨hx0, ht0⟩ := hI
    have hs0 := zsum_le (C := 80) (f := fun x => zsum (G 1).toNat (fun y => sVat G x y)) (by decide) (hF0) x.toNat
    have L1 := zfor1 (G 1) (fun (y : Int) (t1 : Int) => Ev (d + 4) M_Game_winningSpots 0 0 14 [(2, g), (0, t1), (0, x), (0, y)] [] kd m (zqI kd (qE m (sV G)))) (fun (y : Int) (t1 : Int) => 0 ≤ y ∧ x < G 0 ∧ t1 = t0 + zsum y.toNat (fun y => sVat G x y)) (by
      intro y t1 hb hI KL1
      obtain ⟨hy0, hxlt, ht1⟩ := hI
      have hs1 := zsum_le (C := 16) (f := fun y => sVat G x y) (by decide) (hF1 x) y.toNat
      refine T_Game_winningSpots_14 ?_
      refine ⟨hg.1.1, ?_⟩
      refine ⟨fun c1 => ?_, fun c1 => ?_⟩
      · skip
        have ey : y = G 1 := by omega
        rw [iw_s (x := x + 1) (by omega) (by omega)]
        refine KL0 _ (by omega) ⟨by omega, ?_⟩
        rw [zsum_1 hx0, ht1, ey]; omega
      · skip
        refine ⟨hg.1.1, _, c_Game_winningAt hg ho (by omega) (by omega), ?_⟩
        rintro _ _ ⟨rfl, rfl⟩
        have hw := sVat_in ho x y
        rw [iw_s (x := y + 1) (by omega) (by omega)]
        rw [iw_s (by omega) (by omega)]
        refine KL1 _ (by omega) ⟨by omega, by omega, ?_⟩
        rw [zsum_1 hy0]; omega)
    refine T_Game_winningSpots_4 ?_
    refine ⟨hg.1.1, ?_⟩
    refine ⟨fun c1 => ?_, fun c1 => ?_⟩
    · skip
      exact ⟨by rw [ht0, show x = G 0 by omega]; simp only [Int.zero_add]; rfl, rfl⟩
    · skip
      exact L1 0 t0 (by omega) ⟨by omega, by omega, by rw [zsum_0]; omega⟩)
  refine S_Game_winningSpots ?_
  exact L0 0 0 (by omega) ⟨by omega, by rw [zsum_0]; rfl⟩
def sWV (G : GR) : Int := zsum (G 0).toNat fun x => zsum (G 1).toNat fun y => gW G x y * sVat G x y
theorem c_Game_weightOfWinningSpots {d : Nat} {kd : ZK} {m : ZM} {g : Int} {G : GR} (hg : CG kd m g G) (ho : GOK G) : CtI (d + 4) M_Game_weightOfWinningSpots [(2, g)] kd m (qE m (sWV G)) := by
  have e0 := hg.2.1
  have h0 := ho.1
  have hF1 : ∀ x y : Int, 0 ≤ gW G x y * sVat G x y ∧ gW G x y * sVat G x y ≤ 144 := fun x y => zmul_in (ho.gW x y) (sVat_in ho x y)
  have hF0 : ∀ x : Int, 0 ≤ zsum (G 1).toNat (fun y => gW G x y * sVat G x y) ∧ zsum (G 1).toNat (fun y => gW G x y * sVat G x y) ≤ 720 := fun x => by
    have := zsum_le (C := 144) (f := fun y => gW G x y * sVat G x y) (by decide) (hF1 x) (G 1).toNat
    omega
  have L0 := zfor1 (G 0) (fun (x : Int) (t0 : Int) => Ev (d + 4) M_Game_weightOfWinningSpots 0 0 4 [(2, g), (0, t0), (0, x), zJ] [] kd m (zqI kd (qE m (sWV G)))) (fun (x : Int) (t0 : Int) => 0 ≤ x ∧ t0 = 0 + zsum x.toNat (fun x => zsum (G 1).toNat (fun y => gW G x y * sVat G x y))) (by
    intro x t0 hb hI KL0
    obtain ⟨hx0, ht0⟩ := hI
    have hs0 := zsum_le (C := 720) (f := fun x => zsum (G 1).toNat (fun y => gW G x y * sVat G x y)) (by decide) (hF0) x.toNat
    have L1 := zfor1 (G 1) (fun (y : Int) (t1 : Int) => Ev (d + 4) M_Game_weightOfWinningSpots 0 0 14 [(2, g), (0, t1), (0, x), (0, y)] [] kd m (zqI kd (qE m (sWV G)))) (fun (y : Int) (t1 : Int) => 0 ≤ y ∧ x < G 0 ∧ t1 = t0 + zsum y.toNat (fun y => gW G x y * sVat G x y)) (by
      intro y t1 hb hI KL1
      obtain ⟨hy0, hxlt, ht1⟩ := hI
      have hs1 := zsum_le (C := 144) (f := fun y => gW G x y * sVat G x y) (by decide) (hF1 x) y.toNat
      refine T_Game_weightOfWinningSpots_14 ?_
      refine ⟨hg.1.1, ?_⟩
      refine ⟨fun c1 => ?_, fun c1 => ?_⟩
      · skip
        have ey : y = G 1 := by omega
        rw [iw_s (x := x + 1) (by omega) (by omega)]
        refine KL0 _ (by omega) ⟨by omega, ?_⟩
        rw [zsum_1 hx0, ht1, ey]; omega
      · skip
        refine ⟨hg.1.1, ?_⟩
        refine ⟨_, c_Ap_cellOf (by omega) (by omega), ?_⟩
        rintro _ _ ⟨rfl, rfl⟩
        refine ⟨hg.1.inW (zC_in (by omega) (by omega)), ?_⟩
        refine ⟨hg.1.1, _, c_Game_winningAt hg ho (by omega) (by omega), ?_⟩
        rintro _ _ ⟨rfl, rfl⟩
        have hw := zmul_in (ho.gW x y) (sVat_in ho x y)
        rw [iw_s (x := y + 1) (by omega) (by omega), hg.W0 ⟨by omega, by omega⟩ ⟨by omega, by omega⟩]
        rw [iw_s (x := gW G x y * sVat G x y) (by omega) (by omega)]
        rw [iw_s (by omega) (by omega)]
        refine KL1 _ (by omega) ⟨by omega, by omega, ?_⟩
        rw [zsum_1 hy0]; omega)
    refine T_Game_weightOfWinningSpots_4 ?_
    refine ⟨hg.1.1, ?_⟩
    refine ⟨fun c1 => ?_, fun c1 => ?_⟩
    · skip
      exact ⟨by rw [ht0, show x = G 0 by omega]; simp only [Int.zero_add]; rfl, rfl⟩
    · skip
      exact L1 0 t0 (by omega) ⟨by omega, by omega, by rw [zsum_0]; omega⟩)
  refine S_Game_weightOfWinningSpots ?_
  exact L0 0 0 (by omega) ⟨by omega, by rw [zsum_0]; rfl⟩
