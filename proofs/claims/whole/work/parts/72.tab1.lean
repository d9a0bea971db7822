/-! TABLE: loading; sums of lines; the rows in their order -/
theorem c_Table_setSizes {d : Nat} {kd : ZK} {m : ZM} {nq na ng nr w a b c e : Int} (hT : TS kd m nq na ng nr w) (h1 : 0 ≤ c * e ∧ c * e ≤ 1000) : CtV (d + 1) M_Table_setSizes [(2, 45), (0, a), (0, b), (0, c), (0, e)] kd m (fun m1 => TS kd m1 a b c e (c * e) ∧ ∀ x, x ≠ 45 → m1 x = m x) := by
  refine S_Table_setSizes ⟨hT.1, hT.1, hT.1, hT.1, hT.1, ?_⟩
  rw [iw_s (by omega) (by omega)]
  refine ⟨⟨hT.1, ⟨by simp [zup], by simp [zup], by simp [zup], by simp [zup], by simp [zup]⟩, ?_, hT.2.2.2⟩, fun x hx => by rw [zup_off hx, zup_off hx, zup_off hx, zup_off hx, zup_off hx]⟩
  simp only [zup_at, gup_off (show (5 : Int) ≠ 0 by decide), gup_off (show (5 : Int) ≠ 1 by decide), gup_off (show (5 : Int) ≠ 2 by decide), gup_off (show (5 : Int) ≠ 3 by decide), gup_off (show (5 : Int) ≠ 4 by decide), gup_off (show (6 : Int) ≠ 0 by decide), gup_off (show (6 : Int) ≠ 1 by decide), gup_off (show (6 : Int) ≠ 2 by decide), gup_off (show (6 : Int) ≠ 3 by decide), gup_off (show (6 : Int) ≠ 4 by decide), gup_off (show (7 : Int) ≠ 0 by decide), gup_off (show (7 : Int) ≠ 1 by decide), gup_off (show (7 : Int) ≠ 2 by decide), gup_off (show (7 : Int) ≠ 3 by decide), gup_off (show (7 : Int) ≠ 4 by decide), gup_off (show (8 : Int) ≠ 0 by decide), gup_off (show (8 : Int) ≠ 1 by decide), gup_off (show (8 : Int) ≠ 2 by decide), gup_off (show (8 : Int) ≠ 3 by decide), gup_off (show (8 : Int) ≠ 4 by decide), gup_off (show (9 : Int) ≠ 0 by decide), gup_off (show (9 : Int) ≠ 1 by decide), gup_off (show (9 : Int) ≠ 2 by decide), gup_off (show (9 : Int) ≠ 3 by decide), gup_off (show (9 : Int) ≠ 4 by decide), gup_off (show (10 : Int) ≠ 0 by decide), gup_off (show (10 : Int) ≠ 1 by decide), gup_off (show (10 : Int) ≠ 2 by decide), gup_off (show (10 : Int) ≠ 3 by decide), gup_off (show (10 : Int) ≠ 4 by decide)]
  exact hT.2.2.1
/-- a question is loaded up to place t, from place B * w on -/
def LQ (m mm : ZM) (w B t : Int) (F : Int → Int → Int) : Prop := (∀ c, c ≠ 46 → mm c = m c) ∧ (∀ x, x < B * w → mm 46 x = m 46 x) ∧ ∀ x, B * w ≤ x → x < t → mm 46 x = F (x / w - B) (x % w)
theorem LQ_1 {m mm : ZM} {w B t a i v : Int} {F : Int → Int → Int} (h : LQ m mm w B t F) (e : t = (B + a) * w + i) (ha : 0 ≤ a) (hi : 0 ≤ i ∧ i < w) (hv : v = F a i) : LQ m (zup mm 46 t v) w B (t + 1) F := by
  have hb : B * w ≤ (B + a) * w := Int.mul_le_mul_of_nonneg_right (by omega) (by omega)
  refine ⟨fun c hc => by rw [zup_off hc]; exact h.1 c hc, fun x hx => by rw [zup_at, gup_off (by omega)]; exact h.2.1 x hx, fun x x1 x2 => ?_⟩
  rw [zup_at]
  rcases (show x = t ∨ x < t by omega) with k | k
  · rw [k, gup_at, e, lin_d hi.1 hi.2, lin_m hi.1 hi.2, show B + a - B = a by omega]; exact hv
  · rw [gup_off (by omega)]; exact h.2.2 x x1 k
theorem c_Table_loadQuestion {d : Nat} {kd : ZK} {m : ZM} {g : Int} {G : GR} {p q k w : Int} (hw : w = nQ G (1 - p) * nA G (1 - p)) (hT : TS kd m k (nA G p) (nQ G (1 - p)) (nA G (1 - p)) w) (hg : CG kd m g G) (ho : GOK G) (hz : 55 < g) (hp : p = 0 ∨ p = 1) (hq : 0 ≤ q ∧ q < nQ G p) (hk : 0 ≤ k ∧ k ≤ 4) : CtV (d + 4) M_Table_loadQuestion [(2, 45), (2, g), (0, p), (0, q)] kd m (fun m1 => (∀ c, c ≠ 46 → m1 c = m c) ∧ (∀ x, x < k * nA G p * w → m1 46 x = m 46 x) ∧ ∀ a i, 0 ≤ a → a < nA G p → 0 ≤ i → i < w → m1 46 ((k * nA G p + a) * w + i) = fP G p q a i) := by
  have q2 := ho.q (1 - p)
  have q3 := ho.a p
  have q4 := ho.a (1 - p)
  have hB := zmul_in hk q3
  have hw20 := zmul_in q2 q4
  rw [← hw] at hw20
  have hBw := zmul_in hB hw20
  generalize hBe : k * nA G p = B at *
  have hM : ∀ a, 0 ≤ a → a < nA G p → 0 ≤ (B + a) * w ∧ (B + a) * w + w ≤ 400 := fun a a1 a2 => by
    have h1 := mulL (y := B + a) (z := B + nA G p) (w := w) (by omega) (by omega)
    have h2 := zmul_in (a := B + nA G p) (b := w) (A := 20) (B := 20) (by omega) (by omega)
    have h3 := mulN (y := B + a) (w := w) (by omega) (by omega)
    omega
  have hR : ∀ o, 0 ≤ o → o < nQ G (1 - p) → 0 ≤ o * nA G (1 - p) ∧ o * nA G (1 - p) + nA G (1 - p) ≤ w := fun o o1 o2 => by
    have h1 := mulL o2 q4.1
    have h3 := mulN o1 q4.1
    omega
  have L0 := zfor2 (nA G p) (fun (a : Int) (mm : ZM) (t : Int) => Ev (d + 4) M_Table_loadQuestion 0 0 19 [(2, 45), (2, g), (0, p), (0, q), (0, t), (0, a), zJ, zJ] [] kd mm (zqV kd (fun m1 => (∀ c, c ≠ 46 → m1 c = m c) ∧ (∀ x, x < B * w → m1 46 x = m 46 x) ∧ ∀ a i, 0 ≤ a → a < nA G p → 0 ≤ i → i < w → m1 46 ((B + a) * w + i) = fP G p q a i))) (fun (a : Int) (mm : ZM) (t : Int) => 0 ≤ a ∧ t = (B + a) * w ∧ LQ m mm w B t (fP G p q)) (by
    intro a mm t hb hI0 KL0
    obtain ⟨ha0, ht, hL0⟩ := hI0
    have hTm := hT.frame (hL0.1 45 (by decide))
    have hgm : CG kd mm g G := hg.frame (fun a a1 a2 => hL0.1 a (by omega))
    have t0 := hTm.2.1.1
    have t1 := hTm.2.1.2.1
    have t2 := hTm.2.1.2.2.1
    have t3 := hTm.2.1.2.2.2.1
    have t4 := hTm.2.1.2.2.2.2
    have t5 := hTm.2.2.1.1
    have t6 := hTm.2.2.1.2.1
    have t7 := hTm.2.2.1.2.2.1
    have t8 := hTm.2.2.1.2.2.2.1
    have t9 := hTm.2.2.1.2.2.2.2.1
    have t10 := hTm.2.2.1.2.2.2.2.2
    have L1 := zfor2 (nQ G (1 - p)) (fun (o : Int) (mm : ZM) (t : Int) => Ev (d + 4) M_Table_loadQuestion 0 0 31 [(2, 45), (2, g), (0, p), (0, q), (0, t), (0, a), (0, o), zJ] [] kd mm (zqV kd (fun m1 => (∀ c, c ≠ 46 → m1 c = m c) ∧ (∀ x, x < B * w → m1 46 x = m 46 x) ∧ ∀ a i, 0 ≤ a → a < nA G p → 0 ≤ i → i < w → m1 46 ((B + a) * w + i) = fP G p q a i))) (fun (o : Int) (mm : ZM) (t : Int) => 0 ≤ o ∧ a < nA G p ∧ t = (B + a) * w + o * nA G (1 - p) ∧ LQ m mm w B t (fP G p q)) (by
      intro o mm t hb hI1 KL1
      obtain ⟨ho0, hal, ht1, hL1⟩ := hI1
      have hTm := hT.frame (hL1.1 45 (by decide))
      have hgm : CG kd mm g G := hg.frame (fun a a1 a2 => hL1.1 a (by omega))
      have t0 := hTm.2.1.1
      have t1 := hTm.2.1.2.1
      have t2 := hTm.2.1.2.2.1
      have t3 := hTm.2.1.2.2.2.1
      have t4 := hTm.2.1.2.2.2.2
      have t5 := hTm.2.2.1.1
      have t6 := hTm.2.2.1.2.1
      have t7 := hTm.2.2.1.2.2.1
      have t8 := hTm.2.2.1.2.2.2.1
      have t9 := hTm.2.2.1.2.2.2.2.1
      have t10 := hTm.2.2.1.2.2.2.2.2
      have L2 := zfor2 (nA G (1 - p)) (fun (j : Int) (mm : ZM) (t : Int) => Ev (d + 4) M_Table_loadQuestion 0 0 43 [(2, 45), (2, g), (0, p), (0, q), (0, t), (0, a), (0, o), (0, j)] [] kd mm (zqV kd (fun m1 => (∀ c, c ≠ 46 → m1 c = m c) ∧ (∀ x, x < B * w → m1 46 x = m 46 x) ∧ ∀ a i, 0 ≤ a → a < nA G p → 0 ≤ i → i < w → m1 46 ((B + a) * w + i) = fP G p q a i))) (fun (j : Int) (mm : ZM) (t : Int) => 0 ≤ j ∧ o < nQ G (1 - p) ∧ t = (B + a) * w + (o * nA G (1 - p) + j) ∧ LQ m mm w B t (fP G p q)) (by
        intro j mm t hb hI2 KL2
        obtain ⟨hj0, hol, ht2, hL2⟩ := hI2
        have h3 := hM a ha0 hal
        have h4 := hR o ho0 hol
        have hTm := hT.frame (hL2.1 45 (by decide))
        have hgm : CG kd mm g G := hg.frame (fun a a1 a2 => hL2.1 a (by omega))
        have t0 := hTm.2.1.1
        have t1 := hTm.2.1.2.1
        have t2 := hTm.2.1.2.2.1
        have t3 := hTm.2.1.2.2.2.1
        have t4 := hTm.2.1.2.2.2.2
        have t5 := hTm.2.2.1.1
        have t6 := hTm.2.2.1.2.1
        have t7 := hTm.2.2.1.2.2.1
        have t8 := hTm.2.2.1.2.2.2.1
        have t9 := hTm.2.2.1.2.2.2.2.1
        have t10 := hTm.2.2.1.2.2.2.2.2
        refine T_Table_loadQuestion_43 ?_
        try simp only [t0, t1, t2, t3, t4, t5, t6, t7, t8, t9, t10]
        refine ⟨hTm.1, ?_⟩
        refine ⟨fun c1 => ?_, fun c1 => ?_⟩
        · skip
          rw [iw_s (x := o + 1) (by omega) (by omega)]
          exact KL1 mm t (by omega) ⟨by omega, hal, by rw [mulS]; omega, hL2⟩
        · skip
          refine ⟨hTm.1, ?_⟩
          refine ⟨hgm.1.1, _, c_Game_gain hgm ho hp hq ⟨ho0, hol⟩ ⟨ha0, hal⟩ ⟨hj0, by omega⟩, ?_⟩
          rintro _ _ ⟨rfl, rfl⟩
          try simp only [t0, t1, t2, t3, t4, t5, t6, t7, t8, t9, t10]
          refine ⟨(hTm.i46 (by omega) (by omega)), ?_⟩
          rw [iw_s (x := j + 1) (by omega) (by omega)]
          rw [iw_s (x := t + 1) (by omega) (by omega)]
          exact KL2 _ (t + 1) (by omega) ⟨by omega, hol, by omega, LQ_1 hL2 ht2 ha0 ⟨by omega, by omega⟩ (fP_at ⟨hj0, by omega⟩).symm⟩)
      refine T_Table_loadQuestion_31 ?_
      try simp only [t0, t1, t2, t3, t4, t5, t6, t7, t8, t9, t10]
      refine ⟨hTm.1, ?_⟩
      refine ⟨fun c1 => ?_, fun c1 => ?_⟩
      · skip
        rw [iw_s (x := a + 1) (by omega) (by omega)]
        exact KL0 mm t (by omega) ⟨by omega, by rw [← Int.add_assoc, mulS, ht1, show o = nQ G (1 - p) by omega, ← hw], hL1⟩
      · skip
        exact L2 0 mm t (by omega) ⟨by omega, by omega, by omega, hL1⟩)
    refine T_Table_loadQuestion_19 ?_
    try simp only [t0, t1, t2, t3, t4, t5, t6, t7, t8, t9, t10]
    refine ⟨hTm.1, ?_⟩
    refine ⟨fun c1 => ?_, fun c1 => ?_⟩
    · skip
      refine ⟨hL0.1, hL0.2.1, fun a' i a1 a2 i1 i2 => ?_⟩
      have h3 := hM a' a1 a2
      have h4 := Int.mul_le_mul_of_nonneg_right (show B + (a' + 1) ≤ B + a by omega) hw20.1
      have h5 := Int.mul_le_mul_of_nonneg_right (show B ≤ B + a' by omega) hw20.1
      rw [← Int.add_assoc, mulS] at h4
      have := hL0.2.2 ((B + a') * w + i) (by omega) (by omega)
      rw [lin_d i1 i2, lin_m i1 i2, show B + a' - B = a' by omega] at this
      exact this
    · skip
      exact L1 0 mm t (by omega) ⟨by omega, by omega, by rw [Int.zero_mul]; omega, hL0⟩)
  refine S_Table_loadQuestion ?_
  have t0 := hT.2.1.1
  have t1 := hT.2.1.2.1
  have t2 := hT.2.1.2.2.1
  have t3 := hT.2.1.2.2.2.1
  have t4 := hT.2.1.2.2.2.2
  have t5 := hT.2.2.1.1
  have t6 := hT.2.2.1.2.1
  have t7 := hT.2.2.1.2.2.1
  have t8 := hT.2.2.1.2.2.2.1
  have t9 := hT.2.2.1.2.2.2.2.1
  have t10 := hT.2.2.1.2.2.2.2.2
  try simp only [t0, t1, t2, t3, t4, t5, t6, t7, t8, t9, t10]
  refine ⟨hT.1, hT.1, hT.1, ?_⟩
  rw [hBe, iw_s (x := B) (by omega) (by omega), iw_s (by omega) (by omega)]
  exact L0 0 m (B * w) (by omega) ⟨by omega, by rw [Int.add_zero], fun _ _ => rfl, fun _ _ => rfl, fun x x1 x2 => by omega⟩
