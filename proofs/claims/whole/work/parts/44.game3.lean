/-! GAME, third: parity games, squares, boxes, lesser, same -/
theorem pW0 {G : GR} {x y : Int} : pW G 0 x y = gW G x y := rfl
theorem pV0 {G : GR} {x y a b : Int} : pV G 0 x y a b = gV G x y a b := rfl
theorem pB0 {G : GR} {x y a b : Int} : pB G 0 x y a b = gB G x y a b := rfl
theorem zmul_bd {a b A B : Int} (ha : -A ≤ a ∧ a ≤ A) (hb : -B ≤ b ∧ b ≤ B) : -(A * B) ≤ a * b ∧ a * b ≤ A * B := by
  have h1 : (a * b).natAbs ≤ (A * B).natAbs := by
    rw [Int.natAbs_mul, Int.natAbs_mul]
    exact Nat.mul_le_mul (by omega) (by omega)
  have h2 : 0 ≤ A * B := Int.mul_nonneg (by omega) (by omega)
  omega
def isPG (G : GR) : Prop := (G 2 = 2 ∧ G 3 = 2) ∧ zal (G 0) fun x => zal (G 1) fun y => 0 < gW G x y → gS G x y ≠ 0
noncomputable def gZ (G : GR) (x y : Int) : Int := gW G x y * gS G x y
theorem gZ_in {G : GR} (ho : GOK G) (x y : Int) : -9 ≤ gZ G x y ∧ gZ G x y ≤ 9 := zmul_bd (A := 9) (B := 1) ⟨by have := ho.gW x y; omega, (ho.gW x y).2⟩ (gS_in x y)
theorem c_Game_isParityGame {d : Nat} {kd : ZK} {m : ZM} {g : Int} {G : GR} (hg : CG kd m g G) (ho : GOK G) : CtI (d + 4) M_Game_isParityGame [(2, g)] kd m (qE m (zb (isPG G))) := by
  have e0 := hg.2.1
  have h0 := ho.1
  have L0 := zfor0 (G 0) (fun (x : Int)  => Ev (d + 4) M_Game_isParityGame 0 0 20 [(2, g), (0, x), zJ] [] kd m (zqI kd (qE m (zb (isPG G))))) (fun (x : Int)  => 0 ≤ x ∧ (G 2 = 2 ∧ G 3 = 2) ∧ zal x fun x => zal (G 1) fun y => 0 < gW G x y → gS G x y ≠ 0) (by
    intro x  hb hI0 KL0
    obtain ⟨hx0, h22, hX⟩ := hI0
    have L1 := zfor0 (G 1) (fun (y : Int)  => Ev (d + 4) M_Game_isParityGame 0 0 30 [(2, g), (0, x), (0, y)] [] kd m (zqI kd (qE m (zb (isPG G))))) (fun (y : Int)  => 0 ≤ y ∧ x < G 0 ∧ zal y fun y => 0 < gW G x y → gS G x y ≠ 0) (by
      intro y  hb hI1 KL1
      obtain ⟨hy0, hxl, hY⟩ := hI1
      refine T_Game_isParityGame_30 ?_
      refine ⟨hg.1.1, ?_⟩
      refine ⟨fun c1 => ?_, fun c1 => ?_⟩
      · skip
        rw [iw_s (x := x + 1) (by omega) (by omega)]
        exact KL0 (by omega) ⟨by omega, h22, zal_1 hX (by rw [← show y = G 1 by omega]; exact hY)⟩
      · skip
        refine ⟨hg.1.1, ?_⟩
        refine ⟨_, c_Ap_cellOf (by omega) (by omega), ?_⟩
        rintro _ _ ⟨rfl, rfl⟩
        refine ⟨hg.1.inW (zC_in (by omega) (by omega)), ?_⟩
        refine ⟨fun c2 => ?_, fun c2 => ?_⟩
        · try simp only [zb_eq0, zb_ne0] at c2
          have eW := hg.W0 (x := x) (y := y) ⟨by omega, by omega⟩ ⟨by omega, by omega⟩
          rw [iw_s (x := y + 1) (by omega) (by omega)]
          exact KL1 (by omega) ⟨by omega, hxl, zal_1 hY (by intro hh; omega)⟩
        · try simp only [zb_eq0, zb_ne0] at c2
          refine ⟨hg.1.1, _, c_Game_signAt hg ho (by omega) (by omega), ?_⟩
          rintro _ _ ⟨rfl, rfl⟩
          refine ⟨fun c3 => ?_, fun c3 => ?_⟩
          · try simp only [zb_eq0, zb_ne0] at c3
            have eW := hg.W0 (x := x) (y := y) ⟨by omega, by omega⟩ ⟨by omega, by omega⟩
            rw [iw_s (x := y + 1) (by omega) (by omega)]
            exact KL1 (by omega) ⟨by omega, hxl, zal_1 hY (by intro hh; omega)⟩
          · try simp only [zb_eq0, zb_ne0] at c3
            have eW := hg.W0 (x := x) (y := y) ⟨by omega, by omega⟩ ⟨by omega, by omega⟩
            exact ⟨(zb_f (fun hh => absurd (hh.2 x hx0 hxl y hy0 (by omega) (by omega)) (by omega))).symm, rfl⟩)
    refine T_Game_isParityGame_20 ?_
    refine ⟨hg.1.1, ?_⟩
    refine ⟨fun c1 => ?_, fun c1 => ?_⟩
    · skip
      exact ⟨(zb_t ⟨h22, by rw [← show x = G 0 by omega]; exact hX⟩).symm, rfl⟩
    · skip
      exact L1 0 (by omega) ⟨by omega, by omega, zal_0 _⟩)
  refine S_Game_isParityGame ?_
  refine ⟨hg.1.1, ?_⟩
  refine ⟨fun c1 => ?_, fun c1 => ?_⟩
  · skip
    exact ⟨(zb_f (fun hh => by have := hh.1; omega)).symm, rfl⟩
  · skip
    refine ⟨hg.1.1, ?_⟩
    refine ⟨fun c2 => ?_, fun c2 => ?_⟩
    · skip
      exact L0 0 (by omega) ⟨by omega, by omega, zal_0 _⟩
    · skip
      exact ⟨(zb_f (fun hh => by have := hh.1; omega)).symm, rfl⟩
theorem c_Game_signedWeight {d : Nat} {kd : ZK} {m : ZM} {g : Int} {G : GR} {x y : Int} (hg : CG kd m g G) (ho : GOK G) (hx : 0 ≤ x ∧ x < G 0) (hy : 0 ≤ y ∧ y < G 1) : CtI (d + 4) M_Game_signedWeight [(2, g), (0, x), (0, y)] kd m (qE m (gZ G x y)) := by
  have e0 := hg.2.1
  have h0 := ho.1
  refine S_Game_signedWeight ?_
  refine ⟨hg.1.1, ?_⟩
  refine ⟨_, c_Ap_cellOf (by omega) (by omega), ?_⟩
  rintro _ _ ⟨rfl, rfl⟩
  refine ⟨hg.1.inW (zC_in (by omega) (by omega)), ?_⟩
  refine ⟨hg.1.1, _, c_Game_signAt hg ho (by omega) (by omega), ?_⟩
  rintro _ _ ⟨rfl, rfl⟩
  refine ⟨?_, rfl⟩
  rw [hg.W0 hx hy]
  have := gZ_in ho x y
  exact iw_s (by unfold gZ at this; omega) (by unfold gZ at this; omega)
def isSq (c t : Int) : Prop := t < 0 ∨ 0 < t ∧ c = 0
noncomputable def sq1 (G : GR) (x p c y z : Int) : Int := zb (y < z ∧ isSq c (gZ G x y * gZ G p y * gZ G x z * gZ G p z))
noncomputable def sq2 (G : GR) (x p c : Int) : Int := zsum (G 1).toNat fun y => zsum (G 1).toNat fun z => sq1 G x p c y z
noncomputable def sqs (G : GR) (c : Int) : Int := zsum (G 0).toNat fun x => zsum (G 0).toNat fun p => zite (x < p) (sq2 G x p c) 0
theorem sq2_in {G : GR} (ho : GOK G) (x p c : Int) : 0 ≤ sq2 G x p c ∧ sq2 G x p c ≤ 25 := by
  have h0 := ho.1
  have h := zsum_le (C := 5) (f := fun y => zsum (G 1).toNat fun z => sq1 G x p c y z) (by decide) (fun y => by
    have := zsum_le (C := 1) (f := fun z => sq1 G x p c y z) (by decide) (fun z => zb_01) (G 1).toNat
    omega) (G 1).toNat
  unfold sq2
  omega
theorem c_Game_squaresOfTwo {d : Nat} {kd : ZK} {m : ZM} {g : Int} {G : GR} {x p c : Int} (hg : CG kd m g G) (ho : GOK G) (hx : 0 ≤ x ∧ x < G 0) (hp : 0 ≤ p ∧ p < G 0) : CtI (d + 5) M_Game_squaresOfTwo [(2, g), (0, x), (0, p), (0, c)] kd m (qE m (sq2 G x p c)) := by
  have e0 := hg.2.1
  have h0 := ho.1
  have L0 := zfor1 (G 1) (fun (y : Int) (t : Int) => Ev (d + 5) M_Game_squaresOfTwo 0 0 6 [(2, g), (0, x), (0, p), (0, c), (0, t), (0, y), zJ, zJ, zJ] [] kd m (zqI kd (qE m (sq2 G x p c)))) (fun (y : Int) (t : Int) => 0 ≤ y ∧ t = zsum y.toNat fun y => zsum (G 1).toNat fun z => sq1 G x p c y z) (by
    intro y t hb hI0 KL0
    obtain ⟨hy0, ht⟩ := hI0
    have hs0 := zsum_le (C := 5) (f := fun y => zsum (G 1).toNat fun z => sq1 G x p c y z) (by decide) (fun y => by
      have := zsum_le (C := 1) (f := fun z => sq1 G x p c y z) (by decide) (fun z => zb_01) (G 1).toNat
      omega) y.toNat
    have hp1 := zmul_bd (A := 9) (B := 9) (gZ_in ho x y) (gZ_in ho p y)
    have L1 := zfor1 (G 1) (fun (z : Int) (u : Int) => Ev (d + 5) M_Game_squaresOfTwo 0 0 38 [(2, g), (0, x), (0, p), (0, c), (0, u), (0, y), (0, (gZ G x y * gZ G p y)), (0, z), zJ] [] kd m (zqI kd (qE m (sq2 G x p c)))) (fun (z : Int) (u : Int) => y < z ∧ y < G 1 ∧ u = t + zsum z.toNat (fun z => sq1 G x p c y z)) (by
      intro z u hb hI1 KL1
      obtain ⟨hyz, hyl, hu⟩ := hI1
      have hs1 := zsum_le (C := 1) (f := fun z => sq1 G x p c y z) (by decide) (fun z => zb_01) z.toNat
      have hp2 := zmul_bd (A := 81) (B := 9) hp1 (gZ_in ho x z)
      have hp3 := zmul_bd (A := 729) (B := 9) hp2 (gZ_in ho p z)
      have e1 : iw (gZ G x y * gZ G p y * gZ G x z) = gZ G x y * gZ G p y * gZ G x z := iw_s (by omega) (by omega)
      have e2 : iw (gZ G x y * gZ G p y * gZ G x z * gZ G p z) = gZ G x y * gZ G p y * gZ G x z * gZ G p z := iw_s (by omega) (by omega)
      refine T_Game_squaresOfTwo_38 ?_
      refine ⟨hg.1.1, ?_⟩
      refine ⟨fun c1 => ?_, fun c1 => ?_⟩
      · try simp only [zb_eq0, zb_ne0, e1, e2] at c1
        rw [iw_s (x := y + 1) (by omega) (by omega)]
        refine KL0 _ (by omega) ⟨by omega, ?_⟩
        rw [zsum_1 hy0, hu, show z = G 1 by omega, ht]
      · try simp only [zb_eq0, zb_ne0, e1, e2] at c1
        refine ⟨hg.1.1, _, c_Game_signedWeight hg ho (by omega) (by omega), ?_⟩
        rintro _ _ ⟨rfl, rfl⟩
        refine ⟨hg.1.1, _, c_Game_signedWeight hg ho (by omega) (by omega), ?_⟩
        rintro _ _ ⟨rfl, rfl⟩
        refine ⟨fun c2 => ?_, fun c2 => ?_⟩
        · try simp only [zb_eq0, zb_ne0, e1, e2] at c2
          rw [iw_s (x := z + 1) (by omega) (by omega)]
          rw [iw_s (x := u + 1) (by omega) (by omega)]
          have hb : sq1 G x p c y z = 1 := zb_t ⟨by omega, by unfold isSq; omega⟩
          refine KL1 _ (by omega) ⟨by omega, hyl, ?_⟩
          rw [zsum_1 (by omega), hb]; omega
        · try simp only [zb_eq0, zb_ne0, e1, e2] at c2
          refine ⟨fun c3 => ?_, fun c3 => ?_⟩
          · try simp only [zb_eq0, zb_ne0, e1, e2] at c3
            rw [iw_s (x := z + 1) (by omega) (by omega)]
            have hb : sq1 G x p c y z = 0 := zb_f (fun hh => by have h2 := hh.2; unfold isSq at h2; omega)
            refine KL1 _ (by omega) ⟨by omega, hyl, ?_⟩
            rw [zsum_1 (by omega), hb]; omega
          · try simp only [zb_eq0, zb_ne0, e1, e2] at c3
            refine ⟨fun c4 => ?_, fun c4 => ?_⟩
            · try simp only [zb_eq0, zb_ne0, e1, e2] at c4
              rw [iw_s (x := z + 1) (by omega) (by omega)]
              have hb : sq1 G x p c y z = 0 := zb_f (fun hh => by have h2 := hh.2; unfold isSq at h2; omega)
              refine KL1 _ (by omega) ⟨by omega, hyl, ?_⟩
              rw [zsum_1 (by omega), hb]; omega
            · try simp only [zb_eq0, zb_ne0, e1, e2] at c4
              rw [iw_s (x := z + 1) (by omega) (by omega)]
              rw [iw_s (x := u + 1) (by omega) (by omega)]
              have hb : sq1 G x p c y z = 1 := zb_t ⟨by omega, by unfold isSq; omega⟩
              refine KL1 _ (by omega) ⟨by omega, hyl, ?_⟩
              rw [zsum_1 (by omega), hb]; omega)
    refine T_Game_squaresOfTwo_6 ?_
    refine ⟨hg.1.1, ?_⟩
    refine ⟨fun c1 => ?_, fun c1 => ?_⟩
    · skip
      exact ⟨by rw [ht, show y = G 1 by omega]; rfl, rfl⟩
    · skip
      refine ⟨hg.1.1, _, c_Game_signedWeight hg ho (by omega) (by omega), ?_⟩
      rintro _ _ ⟨rfl, rfl⟩
      refine ⟨hg.1.1, _, c_Game_signedWeight hg ho (by omega) (by omega), ?_⟩
      rintro _ _ ⟨rfl, rfl⟩
      rw [iw_s (x := y + 1) (by omega) (by omega)]
      rw [iw_s (x := gZ G x y * gZ G p y) (by omega) (by omega)]
      exact L1 (y + 1) t (by omega) ⟨by omega, by omega, by rw [zsum_zero (f := fun z => sq1 G x p c y z) _ (fun i h1 h2 => zb_f (fun hh => by have := hh.1; omega))]; omega⟩)
  refine S_Game_squaresOfTwo ?_
  exact L0 0 0 (by omega) ⟨by omega, rfl⟩
theorem c_Game_squares {d : Nat} {kd : ZK} {m : ZM} {g : Int} {G : GR} {c : Int} (hg : CG kd m g G) (ho : GOK G) : CtI (d + 6) M_Game_squares [(2, g), (0, c)] kd m (qE m (sqs G c)) := by
  have e0 := hg.2.1
  have h0 := ho.1
  have hq1 : ∀ x p : Int, 0 ≤ zite (x < p) (sq2 G x p c) 0 ∧ zite (x < p) (sq2 G x p c) 0 ≤ 25 := fun x p => by
    rcases Classical.em (x < p) with h | h
    · rw [zite_t h]; exact sq2_in ho x p c
    · rw [zite_f h]; decide
  have L0 := zfor1 (G 0) (fun (x : Int) (t : Int) => Ev (d + 6) M_Game_squares 0 0 4 [(2, g), (0, c), (0, t), (0, x), zJ] [] kd m (zqI kd (qE m (sqs G c)))) (fun (x : Int) (t : Int) => 0 ≤ x ∧ t = zsum x.toNat fun x => zsum (G 0).toNat fun p => zite (x < p) (sq2 G x p c) 0) (by
    intro x t hb hI0 KL0
    obtain ⟨hx0, ht⟩ := hI0
    have hs0 := zsum_le (C := 125) (f := fun x => zsum (G 0).toNat fun p => zite (x < p) (sq2 G x p c) 0) (by decide) (fun x => by
      have := zsum_le (C := 25) (f := fun p => zite (x < p) (sq2 G x p c) 0) (by decide) (fun p => hq1 x p) (G 0).toNat
      omega) x.toNat
    have L1 := zfor1 (G 0) (fun (p : Int) (u : Int) => Ev (d + 6) M_Game_squares 0 0 17 [(2, g), (0, c), (0, u), (0, x), (0, p)] [] kd m (zqI kd (qE m (sqs G c)))) (fun (p : Int) (u : Int) => x < p ∧ x < G 0 ∧ u = t + zsum p.toNat (fun p => zite (x < p) (sq2 G x p c) 0)) (by
      intro p u hb hI1 KL1
      obtain ⟨hxp, hxl, hu⟩ := hI1
      have hs1 := zsum_le (C := 25) (f := fun p => zite (x < p) (sq2 G x p c) 0) (by decide) (fun p => hq1 x p) p.toNat
      have hw := sq2_in ho x p c
      refine T_Game_squares_17 ?_
      refine ⟨hg.1.1, ?_⟩
      refine ⟨fun c1 => ?_, fun c1 => ?_⟩
      · skip
        rw [iw_s (x := x + 1) (by omega) (by omega)]
        refine KL0 _ (by omega) ⟨by omega, ?_⟩
        rw [zsum_1 hx0, hu, show p = G 0 by omega, ht]
      · skip
        refine ⟨hg.1.1, _, c_Game_squaresOfTwo hg ho (by omega) (by omega), ?_⟩
        rintro _ _ ⟨rfl, rfl⟩
        rw [iw_s (x := p + 1) (by omega) (by omega)]
        rw [iw_s (by omega) (by omega)]
        refine KL1 _ (by omega) ⟨by omega, hxl, ?_⟩
        rw [zsum_1 (by omega), zite_t hxp]; omega)
    refine T_Game_squares_4 ?_
    refine ⟨hg.1.1, ?_⟩
    refine ⟨fun c1 => ?_, fun c1 => ?_⟩
    · skip
      exact ⟨by rw [ht, show x = G 0 by omega]; rfl, rfl⟩
    · skip
      rw [iw_s (x := x + 1) (by omega) (by omega)]
      exact L1 (x + 1) t (by omega) ⟨by omega, by omega, by rw [zsum_zero (f := fun p => zite (x < p) (sq2 G x p c) 0) _ (fun i h1 h2 => zite_f (by omega))]; omega⟩)
  refine S_Game_squares ?_
  exact L0 0 0 (by omega) ⟨by omega, rfl⟩
def sBW (G : GR) : Int := zsum (G 0).toNat fun x => zsum (G 1).toNat fun y => zsum (G 2).toNat fun a => zsum (G 3).toNat fun b => gW G x y * gV G x y a b * gB G x y a b
theorem c_Game_boxWorth {d : Nat} {kd : ZK} {m : ZM} {g : Int} {G : GR} (hg : CG kd m g G) (ho : GOK G) : CtI (d + 4) M_Game_boxWorth [(2, g)] kd m (qE m (sBW G)) := by
  have e0 := hg.2.1
  have h0 := ho.1
  have hF3 : ∀ x y a b : Int, 0 ≤ gW G x y * gV G x y a b * gB G x y a b ∧ gW G x y * gV G x y a b * gB G x y a b ≤ 108 := fun x y a b => zmul_in (A := 9) (B := 12) (ho.WV 0 x y a b) (ho.gB x y a b)
  have hF2 : ∀ x y a : Int, 0 ≤ zsum (G 3).toNat (fun b => gW G x y * gV G x y a b * gB G x y a b) ∧ zsum (G 3).toNat (fun b => gW G x y * gV G x y a b * gB G x y a b) ≤ 432 := fun x y a => by
    have := zsum_le (C := 108) (f := fun b => gW G x y * gV G x y a b * gB G x y a b) (by decide) (hF3 x y a) (G 3).toNat
    omega
  have hF1 : ∀ x y : Int, 0 ≤ zsum (G 2).toNat (fun a => zsum (G 3).toNat (fun b => gW G x y * gV G x y a b * gB G x y a b)) ∧ zsum (G 2).toNat (fun a => zsum (G 3).toNat (fun b => gW G x y * gV G x y a b * gB G x y a b)) ≤ 1728 := fun x y => by
    have := zsum_le (C := 432) (f := fun a => zsum (G 3).toNat (fun b => gW G x y * gV G x y a b * gB G x y a b)) (by decide) (hF2 x y) (G 2).toNat
    omega
  have hF0 : ∀ x : Int, 0 ≤ zsum (G 1).toNat (fun y => zsum (G 2).toNat (fun a => zsum (G 3).toNat (fun b => gW G x y * gV G x y a b * gB G x y a b))) ∧ zsum (G 1).toNat (fun y => zsum (G 2).toNat (fun a => zsum (G 3).toNat (fun b => gW G x y * gV G x y a b * gB G x y a b))) ≤ 8640 := fun x => by
    have := zsum_le (C := 1728) (f := fun y => zsum (G 2).toNat (fun a => zsum (G 3).toNat (fun b => gW G x y * gV G x y a b * gB G x y a b))) (by decide) (hF1 x) (G 1).toNat
    omega
  have L0 := zfor1 (G 0) (fun (x : Int) (t0 : Int) => Ev (d + 4) M_Game_boxWorth 0 0 4 [(2, g), (0, t0), (0, x), zJ, zJ, zJ] [] kd m (zqI kd (qE m (sBW G)))) (fun (x : Int) (t0 : Int) => 0 ≤ x ∧ t0 = 0 + zsum x.toNat (fun x => zsum (G 1).toNat (fun y => zsum (G 2).toNat (fun a => zsum (G 3).toNat (fun b => gW G x y * gV G x y a b * gB G x y a b))))) (by
    intro x t0 hb hI KL0
    obtain ⟨hx0, ht0⟩ := hI
    have hs0 := zsum_le (C := 8640) (f := fun x => zsum (G 1).toNat (fun y => zsum (G 2).toNat (fun a => zsum (G 3).toNat (fun b => gW G x y * gV G x y a b * gB G x y a b)))) (by decide) (hF0) x.toNat
    have L1 := zfor1 (G 1) (fun (y : Int) (t1 : Int) => Ev (d + 4) M_Game_boxWorth 0 0 14 [(2, g), (0, t1), (0, x), (0, y), zJ, zJ] [] kd m (zqI kd (qE m (sBW G)))) (fun (y : Int) (t1 : Int) => 0 ≤ y ∧ x < G 0 ∧ t1 = t0 + zsum y.toNat (fun y => zsum (G 2).toNat (fun a => zsum (G 3).toNat (fun b => gW G x y * gV G x y a b * gB G x y a b)))) (by
      intro y t1 hb hI KL1
      obtain ⟨hy0, hxlt, ht1⟩ := hI
      have hs1 := zsum_le (C := 1728) (f := fun y => zsum (G 2).toNat (fun a => zsum (G 3).toNat (fun b => gW G x y * gV G x y a b * gB G x y a b))) (by decide) (hF1 x) y.toNat
      have L2 := zfor1 (G 2) (fun (a : Int) (t2 : Int) => Ev (d + 4) M_Game_boxWorth 0 0 25 [(2, g), (0, t2), (0, x), (0, y), (0, a), zJ] [] kd m (zqI kd (qE m (sBW G)))) (fun (a : Int) (t2 : Int) => 0 ≤ a ∧ y < G 1 ∧ t2 = t1 + zsum a.toNat (fun a => zsum (G 3).toNat (fun b => gW G x y * gV G x y a b * gB G x y a b))) (by
        intro a t2 hb hI KL2
        obtain ⟨ha0, hylt, ht2⟩ := hI
        have hs2 := zsum_le (C := 432) (f := fun a => zsum (G 3).toNat (fun b => gW G x y * gV G x y a b * gB G x y a b)) (by decide) (hF2 x y) a.toNat
        have L3 := zfor1 (G 3) (fun (b : Int) (t3 : Int) => Ev (d + 4) M_Game_boxWorth 0 0 37 [(2, g), (0, t3), (0, x), (0, y), (0, a), (0, b)] [] kd m (zqI kd (qE m (sBW G)))) (fun (b : Int) (t3 : Int) => 0 ≤ b ∧ a < G 2 ∧ t3 = t2 + zsum b.toNat (fun b => gW G x y * gV G x y a b * gB G x y a b)) (by
          intro b t3 hb hI KL3
          obtain ⟨hb0, halt, ht3⟩ := hI
          have hs3 := zsum_le (C := 108) (f := fun b => gW G x y * gV G x y a b * gB G x y a b) (by decide) (hF3 x y a) b.toNat
          refine T_Game_boxWorth_37 ?_
          refine ⟨hg.1.1, ?_⟩
          refine ⟨fun c1 => ?_, fun c1 => ?_⟩
          · skip
            have ey : b = G 3 := by omega
            rw [iw_s (x := a + 1) (by omega) (by omega)]
            refine KL2 _ (by omega) ⟨by omega, by omega, ?_⟩
            rw [zsum_1 ha0, ht3, ey]; omega
          · skip
            refine ⟨hg.1.1, _, c_Game_gain hg ho (Or.inl rfl) (show 0 ≤ x ∧ x < G 0 by omega) (show 0 ≤ y ∧ y < G 1 by omega) (show 0 ≤ a ∧ a < G 2 by omega) (show 0 ≤ b ∧ b < G 3 by omega), ?_⟩
            rintro _ _ ⟨rfl, rfl⟩
            refine ⟨hg.1.1, ?_⟩
            refine ⟨_, c_Ap_spotOf (by omega) (by omega) (by omega) (by omega), ?_⟩
            rintro _ _ ⟨rfl, rfl⟩
            refine ⟨hg.1.inB (zS_in (by omega) (by omega) (by omega) (by omega)), ?_⟩
            have hw := zmul_in (A := 9) (B := 12) (ho.WV 0 x y a b) (ho.gB x y a b)
            rw [pW0, pV0] at hw
            rw [iw_s (x := b + 1) (by omega) (by omega), hg.B0 ⟨by omega, by omega⟩ ⟨by omega, by omega⟩ ⟨by omega, by omega⟩ ⟨by omega, by omega⟩, pW0, pV0, iw_s (x := gW G x y * gV G x y a b * gB G x y a b) (by omega) (by omega)]
            rw [iw_s (by omega) (by omega)]
            refine KL3 _ (by omega) ⟨by omega, by omega, ?_⟩
            rw [zsum_1 hb0]; omega)
        refine T_Game_boxWorth_25 ?_
        refine ⟨hg.1.1, ?_⟩
        refine ⟨fun c1 => ?_, fun c1 => ?_⟩
        · skip
          have ey : a = G 2 := by omega
          rw [iw_s (x := y + 1) (by omega) (by omega)]
          refine KL1 _ (by omega) ⟨by omega, by omega, ?_⟩
          rw [zsum_1 hy0, ht2, ey]; omega
        · skip
          exact L3 0 t2 (by omega) ⟨by omega, by omega, by rw [zsum_0]; omega⟩)
      refine T_Game_boxWorth_14 ?_
      refine ⟨hg.1.1, ?_⟩
      refine ⟨fun c1 => ?_, fun c1 => ?_⟩
      · skip
        have ey : y = G 1 := by omega
        rw [iw_s (x := x + 1) (by omega) (by omega)]
        refine KL0 _ (by omega) ⟨by omega, ?_⟩
        rw [zsum_1 hx0, ht1, ey]; omega
      · skip
        exact L2 0 t1 (by omega) ⟨by omega, by omega, by rw [zsum_0]; omega⟩)
    refine T_Game_boxWorth_4 ?_
    refine ⟨hg.1.1, ?_⟩
    refine ⟨fun c1 => ?_, fun c1 => ?_⟩
    · skip
      exact ⟨by rw [ht0, show x = G 0 by omega]; simp only [Int.zero_add]; rfl, rfl⟩
    · skip
      exact L1 0 t0 (by omega) ⟨by omega, by omega, by rw [zsum_0]; omega⟩)
  refine S_Game_boxWorth ?_
  exact L0 0 0 (by omega) ⟨by omega, by rw [zsum_0]; rfl⟩
def isWh (G : GR) : Prop := zal (G 0) fun x => zal (G 1) fun y => (zsum (G 2).toNat fun a => sB G 0 x a y) = 12
theorem c_Game_isWhole {d : Nat} {kd : ZK} {m : ZM} {g : Int} {G : GR} (hg : CG kd m g G) (ho : GOK G) : CtI (d + 4) M_Game_isWhole [(2, g)] kd m (qE m (zb (isWh G))) := by
  have e0 := hg.2.1
  have h0 := ho.1
  have L0 := zfor0 (G 0) (fun (x : Int)  => Ev (d + 4) M_Game_isWhole 0 0 2 [(2, g), (0, x), zJ, zJ, zJ] [] kd m (zqI kd (qE m (zb (isWh G))))) (fun (x : Int)  => 0 ≤ x ∧ zal x fun x => zal (G 1) fun y => (zsum (G 2).toNat fun a => sB G 0 x a y) = 12) (by
    intro x  hb hI0 KL0
    obtain ⟨hx0, hX⟩ := hI0
    have L1 := zfor0 (G 1) (fun (y : Int)  => Ev (d + 4) M_Game_isWhole 0 0 12 [(2, g), (0, x), (0, y), zJ, zJ] [] kd m (zqI kd (qE m (zb (isWh G))))) (fun (y : Int)  => 0 ≤ y ∧ x < G 0 ∧ zal y fun y => (zsum (G 2).toNat fun a => sB G 0 x a y) = 12) (by
      intro y  hb hI1 KL1
      obtain ⟨hy0, hxl, hY⟩ := hI1
      have L2 := zfor1 (G 2) (fun (a : Int) (t : Int) => Ev (d + 4) M_Game_isWhole 0 0 25 [(2, g), (0, x), (0, y), (0, t), (0, a)] [] kd m (zqI kd (qE m (zb (isWh G))))) (fun (a : Int) (t : Int) => 0 ≤ a ∧ y < G 1 ∧ t = zsum a.toNat fun a => sB G 0 x a y) (by
        intro a t hb hI2 KL2
        obtain ⟨ha0, hyl, ht⟩ := hI2
        have hs := zsum_le (C := 48) (f := fun a => sB G 0 x a y) (by decide) (fun a => sB_in ho 0 x a y) a.toNat
        have hw := sB_in ho 0 x a y
        refine T_Game_isWhole_25 ?_
        refine ⟨hg.1.1, ?_⟩
        refine ⟨fun c1 => ?_, fun c1 => ?_⟩
        · skip
          refine ⟨fun c2 => ?_, fun c2 => ?_⟩
          · skip
            rw [iw_s (x := y + 1) (by omega) (by omega)]
            exact KL1 (by omega) ⟨by omega, hxl, zal_1 hY (by rw [← show a = G 2 by omega, ← ht]; omega)⟩
          · skip
            exact ⟨(zb_f (fun hh => by have h2 := hh x hx0 hxl y hy0 hyl; simp only [] at h2; rw [← show a = G 2 by omega, ← ht] at h2; omega)).symm, rfl⟩
        · skip
          refine ⟨hg.1.1, _, c_Game_howOften hg ho (Or.inl rfl) ⟨hx0, hxl⟩ ⟨hy0, hyl⟩ ⟨ha0, (show a < G 2 by omega)⟩, ?_⟩
          rintro _ _ ⟨rfl, rfl⟩
          rw [iw_s (x := a + 1) (by omega) (by omega)]
          rw [iw_s (by omega) (by omega)]
          refine KL2 _ (by omega) ⟨by omega, hyl, ?_⟩
          rw [zsum_1 ha0]; omega)
      refine T_Game_isWhole_12 ?_
      refine ⟨hg.1.1, ?_⟩
      refine ⟨fun c1 => ?_, fun c1 => ?_⟩
      · skip
        rw [iw_s (x := x + 1) (by omega) (by omega)]
        exact KL0 (by omega) ⟨by omega, zal_1 hX (by rw [← show y = G 1 by omega]; exact hY)⟩
      · skip
        exact L2 0 0 (by omega) ⟨by omega, by omega, rfl⟩)
    refine T_Game_isWhole_2 ?_
    refine ⟨hg.1.1, ?_⟩
    refine ⟨fun c1 => ?_, fun c1 => ?_⟩
    · skip
      exact ⟨(zb_t (by unfold isWh; rw [← show x = G 0 by omega]; exact hX)).symm, rfl⟩
    · skip
      exact L1 0 (by omega) ⟨by omega, by omega, zal_0 _⟩)
  refine S_Game_isWhole ?_
  exact L0 0 (by omega) ⟨by omega, zal_0 _⟩
def noSig (G : GR) (p : Int) : Prop := zal (nQ G p) fun q => zal (nA G p) fun a => zal (nQ G (1 - p)) fun o => sB G p q a o = sB G p q a 0
theorem c_Game_signalsTo {d : Nat} {kd : ZK} {m : ZM} {g : Int} {G : GR} {p : Int} (hg : CG kd m g G) (ho : GOK G) (hp : p = 0 ∨ p = 1) (h1 : 1 ≤ nQ G (1 - p)) : CtI (d + 4) M_Game_signalsTo [(2, g), (0, p)] kd m (qE m (zb (¬ noSig G p))) := by
  have e0 := hg.2.1
  have h0 := ho.1
  have q1 := ho.q p
  have q2 := ho.q (1 - p)
  have q3 := ho.a p
  have q4 := ho.a (1 - p)
  have ep : iw (1 - p) = 1 - p := iw_s (by omega) (by omega)
  have L0 := zfor0 (nQ G p) (fun (q : Int)  => Ev (d + 4) M_Game_signalsTo 0 0 2 [(2, g), (0, p), (0, q), zJ, zJ, zJ] [] kd m (zqI kd (qE m (zb (¬ noSig G p))))) (fun (q : Int)  => 0 ≤ q ∧ zal q fun q => zal (nA G p) fun a => zal (nQ G (1 - p)) fun o => sB G p q a o = sB G p q a 0) (by
    intro q  hb hI0 KL0
    obtain ⟨hq0, hQ⟩ := hI0
    have L1 := zfor0 (nA G p) (fun (a : Int)  => Ev (d + 4) M_Game_signalsTo 0 0 13 [(2, g), (0, p), (0, q), (0, a), zJ, zJ] [] kd m (zqI kd (qE m (zb (¬ noSig G p))))) (fun (a : Int)  => 0 ≤ a ∧ q < nQ G p ∧ zal a fun a => zal (nQ G (1 - p)) fun o => sB G p q a o = sB G p q a 0) (by
      intro a  hb hI1 KL1
      obtain ⟨ha0, hql, hA⟩ := hI1
      have L2 := zfor0 (nQ G (1 - p)) (fun (o : Int)  => Ev (d + 4) M_Game_signalsTo 0 0 35 [(2, g), (0, p), (0, q), (0, a), (0, (sB G p q a 0)), (0, o)] [] kd m (zqI kd (qE m (zb (¬ noSig G p))))) (fun (o : Int)  => 1 ≤ o ∧ a < nA G p ∧ zal o fun o => sB G p q a o = sB G p q a 0) (by
        intro o  hb hI2 KL2
        obtain ⟨ho1, hal, hO⟩ := hI2
        refine T_Game_signalsTo_35 ?_
        simp only [ep]
        refine ⟨hg.1.1, _, c_Game_questionsOf hg, ?_⟩
        rintro _ _ ⟨rfl, rfl⟩
        refine ⟨fun c1 => ?_, fun c1 => ?_⟩
        · try simp only [zb_eq0, zb_ne0] at c1
          rw [iw_s (x := a + 1) (by omega) (by omega)]
          exact KL1 (by omega) ⟨by omega, hql, zal_1 hA (by rw [← show o = nQ G (1 - p) by omega]; exact hO)⟩
        · try simp only [zb_eq0, zb_ne0] at c1
          refine ⟨hg.1.1, _, c_Game_howOften hg ho hp ⟨by omega, by omega⟩ ⟨by omega, by omega⟩ ⟨by omega, by omega⟩, ?_⟩
          rintro _ _ ⟨rfl, rfl⟩
          refine ⟨fun c2 => ?_, fun c2 => ?_⟩
          · try simp only [zb_eq0, zb_ne0] at c2
            rw [iw_s (x := o + 1) (by omega) (by omega)]
            exact KL2 (by omega) ⟨by omega, hal, zal_1 hO (by assumption)⟩
          · try simp only [zb_eq0, zb_ne0] at c2
            exact ⟨(zb_t (fun hh => absurd (hh q hq0 hql a ha0 hal o (by omega) (by omega)) (by assumption))).symm, rfl⟩)
      refine T_Game_signalsTo_13 ?_
      refine ⟨hg.1.1, _, c_Game_answersOf hg, ?_⟩
      rintro _ _ ⟨rfl, rfl⟩
      refine ⟨fun c1 => ?_, fun c1 => ?_⟩
      · try simp only [zb_eq0, zb_ne0] at c1
        rw [iw_s (x := q + 1) (by omega) (by omega)]
        exact KL0 (by omega) ⟨by omega, zal_1 hQ (by rw [← show a = nA G p by omega]; exact hA)⟩
      · try simp only [zb_eq0, zb_ne0] at c1
        refine ⟨hg.1.1, _, c_Game_howOften hg ho hp ⟨by omega, by omega⟩ ⟨by omega, by omega⟩ ⟨by omega, by omega⟩, ?_⟩
        rintro _ _ ⟨rfl, rfl⟩
        exact L2 1 (by omega) ⟨by omega, by omega, zal_1 (b := 0) (zal_0 _) rfl⟩)
    refine T_Game_signalsTo_2 ?_
    refine ⟨hg.1.1, _, c_Game_questionsOf hg, ?_⟩
    rintro _ _ ⟨rfl, rfl⟩
    refine ⟨fun c1 => ?_, fun c1 => ?_⟩
    · try simp only [zb_eq0, zb_ne0] at c1
      exact ⟨(zb_f (fun hh => hh (by unfold noSig; rw [← show q = nQ G p by omega]; exact hQ))).symm, rfl⟩
    · try simp only [zb_eq0, zb_ne0] at c1
      exact L1 0 (by omega) ⟨by omega, by omega, zal_0 _⟩)
  refine S_Game_signalsTo ?_
  exact L0 0 (by omega) ⟨by omega, zal_0 _⟩
def isLs (G : GR) (p q a o : Int) : Prop := zal (nQ G (1 - p)) fun h => zal (nA G (1 - p)) fun b => pW G p q h * pV G p q h a b ≤ pW G p q h * pV G p q h o b
theorem c_Game_isLesser {d : Nat} {kd : ZK} {m : ZM} {g : Int} {G : GR} {p q a o : Int} (hg : CG kd m g G) (ho : GOK G) (hp : p = 0 ∨ p = 1) (hq : 0 ≤ q ∧ q < nQ G p) (ha : 0 ≤ a ∧ a < nA G p) (hoo : 0 ≤ o ∧ o < nA G p) : CtI (d + 4) M_Game_isLesser [(2, g), (0, p), (0, q), (0, a), (0, o)] kd m (qE m (zb (isLs G p q a o))) := by
  have e0 := hg.2.1
  have h0 := ho.1
  have q1 := ho.q p
  have q2 := ho.q (1 - p)
  have q3 := ho.a p
  have q4 := ho.a (1 - p)
  have ep : iw (1 - p) = 1 - p := iw_s (by omega) (by omega)
  have L0 := zfor0 (nQ G (1 - p)) (fun (h : Int)  => Ev (d + 4) M_Game_isLesser 0 0 3 [(2, g), (0, p), (0, q), (0, a), (0, o), (0, h), zJ] [] kd m (zqI kd (qE m (zb (isLs G p q a o))))) (fun (h : Int)  => 0 ≤ h ∧ zal h fun h => zal (nA G (1 - p)) fun b => pW G p q h * pV G p q h a b ≤ pW G p q h * pV G p q h o b) (by
    intro h  hb hI0 KL0
    obtain ⟨hh0, hH⟩ := hI0
    have L1 := zfor0 (nA G (1 - p)) (fun (b : Int)  => Ev (d + 4) M_Game_isLesser 0 0 18 [(2, g), (0, p), (0, q), (0, a), (0, o), (0, h), (0, b)] [] kd m (zqI kd (qE m (zb (isLs G p q a o))))) (fun (b : Int)  => 0 ≤ b ∧ h < nQ G (1 - p) ∧ zal b fun b => pW G p q h * pV G p q h a b ≤ pW G p q h * pV G p q h o b) (by
      intro b  hb hI1 KL1
      obtain ⟨hb0, hhl, hB⟩ := hI1
      refine T_Game_isLesser_18 ?_
      simp only [ep]
      refine ⟨hg.1.1, _, c_Game_answersOf hg, ?_⟩
      rintro _ _ ⟨rfl, rfl⟩
      refine ⟨fun c1 => ?_, fun c1 => ?_⟩
      · try simp only [zb_eq0, zb_ne0] at c1
        rw [iw_s (x := h + 1) (by omega) (by omega)]
        exact KL0 (by omega) ⟨by omega, zal_1 hH (by rw [← show b = nA G (1 - p) by omega]; exact hB)⟩
      · try simp only [zb_eq0, zb_ne0] at c1
        refine ⟨hg.1.1, _, c_Game_gain hg ho (by omega) (by omega) (by omega) (by omega) (by omega), ?_⟩
        rintro _ _ ⟨rfl, rfl⟩
        refine ⟨hg.1.1, _, c_Game_gain hg ho (by omega) (by omega) (by omega) (by omega) (by omega), ?_⟩
        rintro _ _ ⟨rfl, rfl⟩
        refine ⟨fun c2 => ?_, fun c2 => ?_⟩
        · try simp only [zb_eq0, zb_ne0] at c2
          rw [iw_s (x := b + 1) (by omega) (by omega)]
          exact KL1 (by omega) ⟨by omega, hhl, zal_1 hB (by assumption)⟩
        · try simp only [zb_eq0, zb_ne0] at c2
          exact ⟨(zb_f (fun hh => absurd (hh h hh0 hhl b hb0 (by omega)) (by assumption))).symm, rfl⟩)
    refine T_Game_isLesser_3 ?_
    simp only [ep]
    refine ⟨hg.1.1, _, c_Game_questionsOf hg, ?_⟩
    rintro _ _ ⟨rfl, rfl⟩
    refine ⟨fun c1 => ?_, fun c1 => ?_⟩
    · try simp only [zb_eq0, zb_ne0] at c1
      exact ⟨(zb_t (by unfold isLs; rw [← show h = nQ G (1 - p) by omega]; exact hH)).symm, rfl⟩
    · try simp only [zb_eq0, zb_ne0] at c1
      exact L1 0 (by omega) ⟨by omega, by omega, zal_0 _⟩)
  refine S_Game_isLesser ?_
  exact L0 0 (by omega) ⟨by omega, zal_0 _⟩
def isSmS (G : GR) (p x y h : Int) : Prop := zal (nA G p) fun a => zal (nA G (1 - p)) fun b => pV G p x h a b = pV G p y h a b ∧ pB G p x h a b = pB G p y h a b
def isSm (G : GR) (p x y : Int) : Prop := zal (nQ G (1 - p)) fun h => pW G p x h = pW G p y h ∧ isSmS G p x y h
theorem c_Game_areSameSpots {d : Nat} {kd : ZK} {m : ZM} {g : Int} {G : GR} {p x y h : Int} (hg : CG kd m g G) (ho : GOK G) (hp : p = 0 ∨ p = 1) (hx : 0 ≤ x ∧ x < nQ G p) (hy : 0 ≤ y ∧ y < nQ G p) (hh : 0 ≤ h ∧ h < nQ G (1 - p)) : CtI (d + 3) M_Game_areSameSpots [(2, g), (0, p), (0, x), (0, y), (0, h)] kd m (qE m (zb (isSmS G p x y h))) := by
  have e0 := hg.2.1
  have h0 := ho.1
  have q1 := ho.q p
  have q2 := ho.q (1 - p)
  have q3 := ho.a p
  have q4 := ho.a (1 - p)
  have ep : iw (1 - p) = 1 - p := iw_s (by omega) (by omega)
  have L0 := zfor0 (nA G p) (fun (a : Int)  => Ev (d + 3) M_Game_areSameSpots 0 0 3 [(2, g), (0, p), (0, x), (0, y), (0, h), (0, a), zJ, zJ, zJ] [] kd m (zqI kd (qE m (zb (isSmS G p x y h))))) (fun (a : Int)  => 0 ≤ a ∧ zal a fun a => zal (nA G (1 - p)) fun b => pV G p x h a b = pV G p y h a b ∧ pB G p x h a b = pB G p y h a b) (by
    intro a  hb hI0 KL0
    obtain ⟨ha0, hA⟩ := hI0
    have L1 := zfor0 (nA G (1 - p)) (fun (b : Int)  => Ev (d + 3) M_Game_areSameSpots 0 0 16 [(2, g), (0, p), (0, x), (0, y), (0, h), (0, a), (0, b), zJ, zJ] [] kd m (zqI kd (qE m (zb (isSmS G p x y h))))) (fun (b : Int)  => 0 ≤ b ∧ a < nA G p ∧ zal b fun b => pV G p x h a b = pV G p y h a b ∧ pB G p x h a b = pB G p y h a b) (by
      intro b  hb hI1 KL1
      obtain ⟨hb0, hal, hB⟩ := hI1
      refine T_Game_areSameSpots_16 ?_
      simp only [ep]
      refine ⟨hg.1.1, _, c_Game_answersOf hg, ?_⟩
      rintro _ _ ⟨rfl, rfl⟩
      refine ⟨fun c1 => ?_, fun c1 => ?_⟩
      · try simp only [zb_eq0, zb_ne0] at c1
        rw [iw_s (x := a + 1) (by omega) (by omega)]
        exact KL0 (by omega) ⟨by omega, zal_1 hA (by rw [← show b = nA G (1 - p) by omega]; exact hB)⟩
      · try simp only [zb_eq0, zb_ne0] at c1
        refine ⟨_, c_Ap_spotOf (by omega) (by omega) (by omega) (by omega), ?_⟩
        rintro _ _ ⟨rfl, rfl⟩
        refine ⟨_, c_Ap_spotOf (by omega) (by omega) (by omega) (by omega), ?_⟩
        rintro _ _ ⟨rfl, rfl⟩
        refine ⟨hg.1.1, hg.1.inV (zS_in (by omega) (by omega) (by omega) (by omega)), hg.1.1, hg.1.inV (zS_in (by omega) (by omega) (by omega) (by omega)), ?_⟩
        refine ⟨fun c2 => ?_, fun c2 => ?_⟩
        · try simp only [zb_eq0, zb_ne0] at c2
          have eA := hg.VB (p := p) (x := x) (y := h) (a := a) (b := b) hp hx hh ⟨by omega, by omega⟩ ⟨by omega, by omega⟩
          have eB := hg.VB (p := p) (x := y) (y := h) (a := a) (b := b) hp hy hh ⟨by omega, by omega⟩ ⟨by omega, by omega⟩
          exact ⟨(zb_f (fun hh => by have h2 := hh a ha0 hal b hb0 (by omega); simp only [] at h2; omega)).symm, rfl⟩
        · try simp only [zb_eq0, zb_ne0] at c2
          refine ⟨hg.1.1, hg.1.inB (zS_in (by omega) (by omega) (by omega) (by omega)), hg.1.1, hg.1.inB (zS_in (by omega) (by omega) (by omega) (by omega)), ?_⟩
          refine ⟨fun c3 => ?_, fun c3 => ?_⟩
          · try simp only [zb_eq0, zb_ne0] at c3
            have eA := hg.VB (p := p) (x := x) (y := h) (a := a) (b := b) hp hx hh ⟨by omega, by omega⟩ ⟨by omega, by omega⟩
            have eB := hg.VB (p := p) (x := y) (y := h) (a := a) (b := b) hp hy hh ⟨by omega, by omega⟩ ⟨by omega, by omega⟩
            rw [iw_s (x := b + 1) (by omega) (by omega)]
            exact KL1 (by omega) ⟨by omega, hal, zal_1 hB ⟨by omega, by omega⟩⟩
          · try simp only [zb_eq0, zb_ne0] at c3
            have eA := hg.VB (p := p) (x := x) (y := h) (a := a) (b := b) hp hx hh ⟨by omega, by omega⟩ ⟨by omega, by omega⟩
            have eB := hg.VB (p := p) (x := y) (y := h) (a := a) (b := b) hp hy hh ⟨by omega, by omega⟩ ⟨by omega, by omega⟩
            exact ⟨(zb_f (fun hh => by have h2 := hh a ha0 hal b hb0 (by omega); simp only [] at h2; omega)).symm, rfl⟩)
    refine T_Game_areSameSpots_3 ?_
    refine ⟨hg.1.1, _, c_Game_answersOf hg, ?_⟩
    rintro _ _ ⟨rfl, rfl⟩
    refine ⟨fun c1 => ?_, fun c1 => ?_⟩
    · try simp only [zb_eq0, zb_ne0] at c1
      exact ⟨(zb_t (by unfold isSmS; rw [← show a = nA G p by omega]; exact hA)).symm, rfl⟩
    · try simp only [zb_eq0, zb_ne0] at c1
      exact L1 0 (by omega) ⟨by omega, by omega, zal_0 _⟩)
  refine S_Game_areSameSpots ?_
  exact L0 0 (by omega) ⟨by omega, zal_0 _⟩
theorem c_Game_areSame {d : Nat} {kd : ZK} {m : ZM} {g : Int} {G : GR} {p x y : Int} (hg : CG kd m g G) (ho : GOK G) (hp : p = 0 ∨ p = 1) (hx : 0 ≤ x ∧ x < nQ G p) (hy : 0 ≤ y ∧ y < nQ G p) : CtI (d + 4) M_Game_areSame [(2, g), (0, p), (0, x), (0, y)] kd m (qE m (zb (isSm G p x y))) := by
  have e0 := hg.2.1
  have h0 := ho.1
  have q1 := ho.q p
  have q2 := ho.q (1 - p)
  have q3 := ho.a p
  have q4 := ho.a (1 - p)
  have ep : iw (1 - p) = 1 - p := iw_s (by omega) (by omega)
  have L0 := zfor0 (nQ G (1 - p)) (fun (h : Int)  => Ev (d + 4) M_Game_areSame 0 0 3 [(2, g), (0, p), (0, x), (0, y), (0, h)] [] kd m (zqI kd (qE m (zb (isSm G p x y))))) (fun (h : Int)  => 0 ≤ h ∧ zal h fun h => pW G p x h = pW G p y h ∧ isSmS G p x y h) (by
    intro h  hb hI0 KL0
    obtain ⟨hh0, hH⟩ := hI0
    refine T_Game_areSame_3 ?_
    simp only [ep]
    refine ⟨hg.1.1, _, c_Game_questionsOf hg, ?_⟩
    rintro _ _ ⟨rfl, rfl⟩
    refine ⟨fun c1 => ?_, fun c1 => ?_⟩
    · try simp only [zb_eq0, zb_ne0] at c1
      exact ⟨(zb_t (by unfold isSm; rw [← show h = nQ G (1 - p) by omega]; exact hH)).symm, rfl⟩
    · try simp only [zb_eq0, zb_ne0] at c1
      refine ⟨hg.1.1, ?_⟩
      refine ⟨_, c_Ap_cellOf (by omega) (by omega), ?_⟩
      rintro _ _ ⟨rfl, rfl⟩
      refine ⟨hg.1.inW (zC_in (by omega) (by omega)), hg.1.1, ?_⟩
      refine ⟨_, c_Ap_cellOf (by omega) (by omega), ?_⟩
      rintro _ _ ⟨rfl, rfl⟩
      refine ⟨hg.1.inW (zC_in (by omega) (by omega)), ?_⟩
      refine ⟨fun c2 => ?_, fun c2 => ?_⟩
      · try simp only [zb_eq0, zb_ne0] at c2
        have eA := hg.W (p := p) (x := x) (y := h) hp hx ⟨by omega, by omega⟩
        have eB := hg.W (p := p) (x := y) (y := h) hp hy ⟨by omega, by omega⟩
        first | exact ⟨(zb_f (fun hh => by have h2 := (hh h hh0 (by omega)).1; omega)).symm, rfl⟩ | exact ⟨(zb_f (fun hh => by have h2 := (hh h hh0 (by omega)).2; contradiction)).symm, rfl⟩
      · try simp only [zb_eq0, zb_ne0] at c2
        refine ⟨hg.1.1, _, c_Game_areSameSpots hg ho hp hx hy (by omega), ?_⟩
        rintro _ _ ⟨rfl, rfl⟩
        refine ⟨fun c3 => ?_, fun c3 => ?_⟩
        · try simp only [zb_eq0, zb_ne0] at c3
          have eA := hg.W (p := p) (x := x) (y := h) hp hx ⟨by omega, by omega⟩
          have eB := hg.W (p := p) (x := y) (y := h) hp hy ⟨by omega, by omega⟩
          rw [iw_s (x := h + 1) (by omega) (by omega)]
          exact KL0 (by omega) ⟨by omega, zal_1 hH ⟨by omega, by assumption⟩⟩
        · try simp only [zb_eq0, zb_ne0] at c3
          have eA := hg.W (p := p) (x := x) (y := h) hp hx ⟨by omega, by omega⟩
          have eB := hg.W (p := p) (x := y) (y := h) hp hy ⟨by omega, by omega⟩
          first | exact ⟨(zb_f (fun hh => by have h2 := (hh h hh0 (by omega)).1; omega)).symm, rfl⟩ | exact ⟨(zb_f (fun hh => by have h2 := (hh h hh0 (by omega)).2; contradiction)).symm, rfl⟩)
  refine S_Game_areSame ?_
  exact L0 0 (by omega) ⟨by omega, zal_0 _⟩
