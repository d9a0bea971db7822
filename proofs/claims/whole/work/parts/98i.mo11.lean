/-! THE MODEL, eleventh: a game twice -/
def wPl (x a y b : Int) : Int := 16 * (25 * (16 * x + a) + y) + b
theorem c_Mo_wonPlace {d : Nat} {kd : ZK} {m : ZM} {x a y b : Int} (hx : 0 ≤ x ∧ x < 4) (ha_q : 0 ≤ a ∧ a < 16) (hy : 0 ≤ y ∧ y < 25) (hb_q : 0 ≤ b ∧ b < 16) : CtI (d + 1) M_Mo_wonPlace [(0, x), (0, a), (0, y), (0, b)] kd m (qE m (wPl x a y b)) := by
  refine S_Mo_wonPlace ⟨?_, rfl⟩
  rw [iw_s (x := 16 * x) (by omega) (by omega), iw_s (x := 16 * x + a) (by omega) (by omega), iw_s (x := 25 * (16 * x + a)) (by omega) (by omega), iw_s (x := 25 * (16 * x + a) + y) (by omega) (by omega), iw_s (x := 16 * (25 * (16 * x + a) + y)) (by omega) (by omega), iw_s (by omega) (by omega)]
  rfl
theorem wPl_in {x a y b : Int} (hx : 0 ≤ x ∧ x < 4) (ha_q : 0 ≤ a ∧ a < 16) (hy : 0 ≤ y ∧ y < 25) (hb_q : 0 ≤ b ∧ b < 16) : 0 ≤ wPl x a y b ∧ wPl x a y b < 25600 := by unfold wPl; omega
theorem sizes2 {G : GR} (ho : GOK G) (ht : 0 < G 0) (h2 : G 0 ≤ 2) : (1 ≤ G 0 * G 0 ∧ G 0 * G 0 ≤ 4) ∧ (4 ≤ G 2 * G 2 ∧ G 2 * G 2 ≤ 16) ∧ (1 ≤ G 1 * G 1 ∧ G 1 * G 1 ≤ 25) ∧ 4 ≤ G 3 * G 3 ∧ G 3 * G 3 ≤ 16 := by
  have h0 := ho.1
  have h1 := ho.2.1 ht
  have a := zmul_in (a := G 0) (b := G 0) (A := 2) (B := 2) (by omega) (by omega)
  have b := zmul_in (a := G 2) (b := G 2) (A := 4) (B := 4) (by omega) (by omega)
  have c := zmul_in (a := G 1) (b := G 1) (A := 5) (B := 5) (by omega) (by omega)
  have e := zmul_in (a := G 3) (b := G 3) (A := 4) (B := 4) (by omega) (by omega)
  have a1_q := Int.mul_le_mul (show 1 ≤ G 0 by omega) (show 1 ≤ G 0 by omega) (by decide) (show 0 ≤ G 0 by omega)
  have b1 := Int.mul_le_mul (show 2 ≤ G 2 by omega) (show 2 ≤ G 2 by omega) (by decide) (show 0 ≤ G 2 by omega)
  have qc_1 := Int.mul_le_mul (show 1 ≤ G 1 by omega) (show 1 ≤ G 1 by omega) (by decide) (show 0 ≤ G 1 by omega)
  have e1_q := Int.mul_le_mul (show 2 ≤ G 3 by omega) (show 2 ≤ G 3 by omega) (by decide) (show 0 ≤ G 3 by omega)
  omega
theorem c_Mo_wonAt {d : Nat} {kd : ZK} {m : ZM} {G : GR} {x a y b v : Int} (h : MG kd m G) (ht : 0 < G 0) (hx : 0 ≤ x ∧ x < (G 0 * G 0)) (ha_q : 0 ≤ a ∧ a < (G 2 * G 2)) (hy : 0 ≤ y ∧ y < (G 1 * G 1)) (hb_q : 0 ≤ b ∧ b < (G 3 * G 3)) : CtI (d + 4) M_Mo_wonAt [(2, 78), (0, x), (0, a), (0, y), (0, b), (0, v)] kd m (qE m (fTn G (if v = 0 then 1 else 0) (G 3 * G 3) x a (y * (G 3 * G 3) + b))) := by
  have r0 := h.s.r0
  have r1_q := h.s.r1
  have r2 := h.s.r2
  have r3 := h.s.r3
  have r4 := h.s.r4
  have r5_q := h.s.r5
  have r7 := h.s.r7
  have r12 := h.s.r12
  have r13 := h.s.r13
  have r15 := h.s.r15
  have r17 := h.s.r17
  have r18 := h.s.r18
  have r19 := h.s.r19
  have r20 := h.s.r20
  have r21 := h.s.r21
  have r22 := h.s.r22
  have hok := h.ok.1
  have hq0 : nQ G 0 = G 0 := rfl
  have hq1 : nQ G 1 = G 1 := rfl
  have ha0 : nA G 0 = G 2 := rfl
  have ha1 : nA G 1 = G 3 := rfl
  have h1 := h.ok.2.1 ht
  have dx := dm2 hx.1 hx.2 ht
  have da := dm2 ha_q.1 ha_q.2 (show 0 < G 2 by omega)
  have dy := dm2 hy.1 hy.2 (show 0 < G 1 by omega)
  have db := dm2 hb_q.1 hb_q.2 (show 0 < G 3 by omega)
  have b1 := zmul_in (a := G 0) (b := G 0) (A := 5) (B := 5) (by omega) (by omega)
  have b2 := zmul_in (a := G 2) (b := G 2) (A := 4) (B := 4) (by omega) (by omega)
  have b3 := zmul_in (a := G 1) (b := G 1) (A := 5) (B := 5) (by omega) (by omega)
  have b4 := zmul_in (a := G 3) (b := G 3) (A := 4) (B := 4) (by omega) (by omega)
  have hdv : ∀ a q, 0 ≤ a → a ≤ 100 → iw (Int.tdiv a q) = iw (a / q) := fun a q a0_q a1_q => by rw [Int.tdiv_eq_ediv_of_nonneg a0_q]
  have htm : ∀ a q, 0 ≤ a → a ≤ 100 → Int.tmod a q = a % q := fun a q a0_q a1_q => Int.tmod_eq_emod_of_nonneg a0_q
  have hw1 := h.ok.gW (x / G 0) (y / G 1)
  have hw2 := h.ok.gW (x % G 0) (y % G 1)
  have hww := zmul_in (A := 9) (B := 9) hw1 hw2
  have hv1 := h.ok.gV (x / G 0) (y / G 1) (a / G 2) (b / G 3)
  have hv2 := h.ok.gV (x % G 0) (y % G 1) (a % G 2) (b % G 3)
  have hfx := fun c => fTn_at (G := G) (c := c) (q := x) (a := a) (o := y) (j := b) hb_q
  refine S_Mo_wonAt ?_
  refine ⟨h.s.o, _, c_Mo_questions h (Or.inl rfl), ?_⟩
  rintro _ _ ⟨rfl, rfl⟩
  refine ⟨by omega, h.s.o, _, c_Mo_questions h (Or.inl rfl), ?_⟩
  rintro _ _ ⟨rfl, rfl⟩
  refine ⟨by omega, h.s.o, _, c_Mo_questions h (Or.inr rfl), ?_⟩
  rintro _ _ ⟨rfl, rfl⟩
  refine ⟨by omega, h.s.o, _, c_Mo_questions h (Or.inr rfl), ?_⟩
  rintro _ _ ⟨rfl, rfl⟩
  refine ⟨by omega, h.s.o, _, c_Mo_answers h (Or.inl rfl), ?_⟩
  rintro _ _ ⟨rfl, rfl⟩
  refine ⟨by omega, h.s.o, _, c_Mo_answers h (Or.inr rfl), ?_⟩
  rintro _ _ ⟨rfl, rfl⟩
  rw [hq0, hq1, ha0, ha1, hdv x _ (by omega) (by omega), hdv y _ (by omega) (by omega), hdv a _ (by omega) (by omega), hdv b _ (by omega) (by omega), htm x _ (by omega) (by omega), htm y _ (by omega) (by omega), iw_s (x := x / G 0) (by omega) (by omega), iw_s (x := y / G 1) (by omega) (by omega), iw_s (x := a / G 2) (by omega) (by omega), iw_s (x := b / G 3) (by omega) (by omega)]
  refine ⟨by omega, h.s.o, _, c_Mo_isWin h (by omega) (by omega) (by omega) (by omega), ?_⟩
  rintro _ _ ⟨rfl, rfl⟩
  refine ⟨h.s.o, _, c_Mo_answers h (Or.inl rfl), ?_⟩
  rintro _ _ ⟨rfl, rfl⟩
  refine ⟨by omega, h.s.o, _, c_Mo_answers h (Or.inr rfl), ?_⟩
  rintro _ _ ⟨rfl, rfl⟩
  rw [ha0, ha1, htm a _ (by omega) (by omega), htm b _ (by omega) (by omega)]
  refine ⟨by omega, h.s.o, _, c_Mo_isWin h (by omega) (by omega) (by omega) (by omega), ?_⟩
  rintro _ _ ⟨rfl, rfl⟩
  have k135 : Ev (d + 4) M_Mo_wonAt 0 0 135 [(2, 78), zJ, zJ, zJ, zJ, zJ, (0, x / G 0), (0, x % G 0), (0, y / G 1), (0, y % G 1), zJ, zJ] [] kd m (zqI kd (qE m (gW G (x / G 0) (y / G 1) * gW G (x % G 0) (y % G 1)))) := by
    refine T_Mo_wonAt_135 ⟨h.s.o, _, c_Mo_weightOf h (by omega) (by omega), ?_⟩
    rintro _ _ ⟨rfl, rfl⟩
    refine ⟨h.s.o, _, c_Mo_weightOf h (by omega) (by omega), ?_⟩
    rintro _ _ ⟨rfl, rfl⟩
    rw [iw_s (by omega) (by omega)]
    exact ⟨rfl, rfl⟩
  refine ⟨fun qc_1 => ⟨fun qc_2 => ?_, fun qc_2 => ⟨fun qc_3 => ?_, fun qc_3 => ?_⟩⟩, fun qc_1 => ⟨fun qc_2 => ?_, fun qc_2 => ⟨fun qc_3 => ?_, fun qc_3 => ?_⟩⟩⟩
  · have e : fTn G 1 (G 3 * G 3) x a (y * (G 3 * G 3) + b) = gW G (x / G 0) (y / G 1) * gW G (x % G 0) (y % G 1) := by
      rw [hfx, cmb, if_neg (by decide), zb_t (Or.inl (zb_ne0.1 qc_2)), Int.mul_one]
    rw [if_pos qc_1, e]
    exact k135
  · refine ⟨?_, rfl⟩
    rw [if_pos qc_1, hfx, cmb, if_neg (by decide), zb_f (fun z => z.elim (fun q => qc_2 (zb_ne0.2 q)) (zb_eq0.1 qc_3)), Int.mul_zero]
  · have e : fTn G 1 (G 3 * G 3) x a (y * (G 3 * G 3) + b) = gW G (x / G 0) (y / G 1) * gW G (x % G 0) (y % G 1) := by
      rw [hfx, cmb, if_neg (by decide), zb_t (Or.inr (zb_ne0.1 qc_3)), Int.mul_one]
    rw [if_pos qc_1, e]
    exact k135
  · refine ⟨?_, rfl⟩
    rw [if_neg qc_1, hfx, cmb, if_pos rfl, zb_f (fun z => zb_eq0.1 qc_2 z.1), Int.mul_zero]
  · refine ⟨?_, rfl⟩
    rw [if_neg qc_1, hfx, cmb, if_pos rfl, zb_f (fun z => zb_eq0.1 qc_3 z.2), Int.mul_zero]
  · refine ⟨h.s.o, _, c_Mo_weightOf h (by omega) (by omega), ?_⟩
    rintro _ _ ⟨rfl, rfl⟩
    refine ⟨h.s.o, _, c_Mo_weightOf h (by omega) (by omega), ?_⟩
    rintro _ _ ⟨rfl, rfl⟩
    refine ⟨?_, rfl⟩
    rw [iw_s (by omega) (by omega), if_neg qc_1, hfx, cmb, if_pos rfl, zb_t ⟨zb_ne0.1 qc_2, zb_ne0.1 qc_3⟩, Int.mul_one]
/-- all places before t are laid -/
def WN (G : GR) (c : Int) (m9_q : ZM) (t : Int) : Prop := ∀ x a y b, 0 ≤ x → x < G 0 * G 0 → 0 ≤ a → a < G 2 * G 2 → 0 ≤ y → y < G 1 * G 1 → 0 ≤ b → b < G 3 * G 3 → wPl x a y b < t → m9_q 90 (wPl x a y b) = fTn G c (G 3 * G 3) x a (y * (G 3 * G 3) + b)
theorem WN_1 {G : GR} {c : Int} {m9_q : ZM} {x a y b v : Int} (hz : G 0 * G 0 ≤ 4 ∧ G 2 * G 2 ≤ 16 ∧ G 1 * G 1 ≤ 25 ∧ G 3 * G 3 ≤ 16) (hx : 0 ≤ x ∧ x < G 0 * G 0) (ha_q : 0 ≤ a ∧ a < G 2 * G 2) (hy : 0 ≤ y ∧ y < G 1 * G 1) (hb_q : 0 ≤ b ∧ b < G 3 * G 3) (hv : v = fTn G c (G 3 * G 3) x a (y * (G 3 * G 3) + b)) (h : WN G c m9_q (wPl x a y b)) : WN G c (zup m9_q 90 (wPl x a y b) v) (wPl x a y (b + 1)) := fun x' a' y' b' x0_q x1_q a0_q a1_q y0 y1 b0 b1 hl => by
  rw [zup_at]
  rcases (show wPl x' a' y' b' < wPl x a y b ∨ wPl x' a' y' b' = wPl x a y b by unfold wPl at hl ⊢; omega) with q | q
  · rw [gup_off (by omega)]
    exact h x' a' y' b' x0_q x1_q a0_q a1_q y0 y1 b0 b1 q
  · rw [q, gup_at, hv]
    have : x' = x ∧ a' = a ∧ y' = y ∧ b' = b := by unfold wPl at q; omega
    rw [this.1, this.2.1, this.2.2.1, this.2.2.2]
theorem WN_w {G : GR} {c : Int} {m9_q : ZM} {t t' : Int} (h : WN G c m9_q t) (e : ∀ x a y b, 0 ≤ x → x < G 0 * G 0 → 0 ≤ a → a < G 2 * G 2 → 0 ≤ y → y < G 1 * G 1 → 0 ≤ b → b < G 3 * G 3 → wPl x a y b < t' → wPl x a y b < t) : WN G c m9_q t' := fun x a y b x0_q x1_q a0_q a1_q y0 y1 b0 b1 hl => h x a y b x0_q x1_q a0_q a1_q y0 y1 b0 b1 (e x a y b x0_q x1_q a0_q a1_q y0 y1 b0 b1 hl)
theorem c_Mo_laysWon {d : Nat} {kd : ZK} {m : ZM} {G : GR} {v : Int} (h : MG kd m G) (ht : 0 < G 0) (h2 : G 0 ≤ 2) : CtV (d + 5) M_Mo_laysWon [(2, 78), (0, v)] kd m (fun m1_q => (∀ e, e ≠ 90 → m1_q e = m e) ∧ WN G (if v = 0 then 1 else 0) m1_q (wPl 4 0 0 0)) := by
  have r0 := h.s.r0
  have r1_q := h.s.r1
  have r2 := h.s.r2
  have r3 := h.s.r3
  have r4 := h.s.r4
  have r5_q := h.s.r5
  have r7 := h.s.r7
  have r12 := h.s.r12
  have r13 := h.s.r13
  have r15 := h.s.r15
  have r17 := h.s.r17
  have r18 := h.s.r18
  have r19 := h.s.r19
  have r20 := h.s.r20
  have r21 := h.s.r21
  have r22 := h.s.r22
  have hok := h.ok.1
  have hq0 : nQ G 0 = G 0 := rfl
  have hq1 : nQ G 1 = G 1 := rfl
  have ha0 : nA G 0 = G 2 := rfl
  have ha1 : nA G 1 = G 3 := rfl
  have hto : 0 < G 0 := ht
  have tA := fun p => h.ok.tA hto p
  have tQ := fun p => h.ok.tQ hto p
  have r0 := rM0
  have r1_q := rM1
  have hz := sizes2 h.ok hto h2
  have i1_q : iw (nQ G 0 * nQ G 0) = G 0 * G 0 := by rw [hq0]; exact iw_s (by omega) (by omega)
  have i2_q : iw (nA G 0 * nA G 0) = G 2 * G 2 := by rw [ha0]; exact iw_s (by omega) (by omega)
  have i3_q : iw (nQ G 1 * nQ G 1) = G 1 * G 1 := by rw [hq1]; exact iw_s (by omega) (by omega)
  have i4_q : iw (nA G 1 * nA G 1) = G 3 * G 3 := by rw [ha1]; exact iw_s (by omega) (by omega)
  have qL0 := zfor1 ((G 0 * G 0)) (fun (x : Int) (m9_q : ZM) => Ev (d + 5) M_Mo_laysWon 0 0 27 [(2, 78), (0, v), (0, (G 2 * G 2)), (0, (G 3 * G 3)), (0, x), zJ, zJ, zJ] [] kd m9_q (zqV kd (fun m1_q => (∀ e, e ≠ 90 → m1_q e = m e) ∧ WN G (if v = 0 then 1 else 0) m1_q (wPl 4 0 0 0)))) (fun (x : Int) (m9_q : ZM) => 0 ≤ x ∧ (∀ e, e ≠ 90 → m9_q e = m e) ∧ WN G (if v = 0 then 1 else 0) m9_q (wPl x 0 0 0)) (by
    intro x m9_q hb_q hI0 qKL0
    obtain ⟨hx0, hF, hW⟩ := hI0
    have hm_q : MG kd m9_q G := h.mf (MF.of (fun c hc_q => hF c (by omega)))
    have qL1 := zfor1 ((G 2 * G 2)) (fun (a : Int) (m9_q : ZM) => Ev (d + 5) M_Mo_laysWon 0 0 46 [(2, 78), (0, v), (0, (G 2 * G 2)), (0, (G 3 * G 3)), (0, x), (0, a), zJ, zJ] [] kd m9_q (zqV kd (fun m1_q => (∀ e, e ≠ 90 → m1_q e = m e) ∧ WN G (if v = 0 then 1 else 0) m1_q (wPl 4 0 0 0)))) (fun (a : Int) (m9_q : ZM) => (0 ≤ a ∧ x < (G 0 * G 0)) ∧ (∀ e, e ≠ 90 → m9_q e = m e) ∧ WN G (if v = 0 then 1 else 0) m9_q (wPl x a 0 0)) (by
      intro a m9_q hb_q hI1 qKL1
      obtain ⟨⟨ha_, hxl⟩, hF, hW⟩ := hI1
      have hm_q : MG kd m9_q G := h.mf (MF.of (fun c hc_q => hF c (by omega)))
      have qL2 := zfor1 ((G 1 * G 1)) (fun (y : Int) (m9_q : ZM) => Ev (d + 5) M_Mo_laysWon 0 0 55 [(2, 78), (0, v), (0, (G 2 * G 2)), (0, (G 3 * G 3)), (0, x), (0, a), (0, y), zJ] [] kd m9_q (zqV kd (fun m1_q => (∀ e, e ≠ 90 → m1_q e = m e) ∧ WN G (if v = 0 then 1 else 0) m1_q (wPl 4 0 0 0)))) (fun (y : Int) (m9_q : ZM) => (0 ≤ y ∧ x < (G 0 * G 0) ∧ a < (G 2 * G 2)) ∧ (∀ e, e ≠ 90 → m9_q e = m e) ∧ WN G (if v = 0 then 1 else 0) m9_q (wPl x a y 0)) (by
        intro y m9_q hb_q hI2 qKL2
        obtain ⟨⟨hy0, _, hal⟩, hF, hW⟩ := hI2
        have hm_q : MG kd m9_q G := h.mf (MF.of (fun c hc_q => hF c (by omega)))
        have qL3 := zfor1 ((G 3 * G 3)) (fun (b : Int) (m9_q : ZM) => Ev (d + 5) M_Mo_laysWon 0 0 74 [(2, 78), (0, v), (0, (G 2 * G 2)), (0, (G 3 * G 3)), (0, x), (0, a), (0, y), (0, b)] [] kd m9_q (zqV kd (fun m1_q => (∀ e, e ≠ 90 → m1_q e = m e) ∧ WN G (if v = 0 then 1 else 0) m1_q (wPl 4 0 0 0)))) (fun (b : Int) (m9_q : ZM) => (0 ≤ b ∧ x < (G 0 * G 0) ∧ a < (G 2 * G 2) ∧ y < (G 1 * G 1)) ∧ (∀ e, e ≠ 90 → m9_q e = m e) ∧ WN G (if v = 0 then 1 else 0) m9_q (wPl x a y b)) (by
          intro b m9_q hb_q hI3 qKL3
          obtain ⟨⟨hb0, _, _, hyl⟩, hF, hW⟩ := hI3
          have hm_q : MG kd m9_q G := h.mf (MF.of (fun c hc_q => hF c (by omega)))
          have hpl := fun e => wPl_in (x := x) (a := a) (y := y) (b := b) ⟨hx0, by omega⟩ ⟨ha_, by omega⟩ ⟨hy0, by omega⟩ ⟨hb0, e⟩
          refine T_Mo_laysWon_74 ?_
          try simp only [hm_q.s.r18]
          refine ⟨fun qc_1 => ?_, fun qc_1 => ?_⟩
          · skip
            rw [iw_s (x := y + 1) (by omega) (by omega)]
            exact qKL2 m9_q (by omega) ⟨⟨by omega, by omega, by omega⟩, hF, WN_w hW (fun x' a' y' b' x0_q x1_q a0_q a1_q y0 y1 b0 b1 hl => by unfold wPl at hl ⊢; omega)⟩
          · skip
            refine ⟨hm_q.s.o, ?_⟩
            refine ⟨_, c_Mo_wonPlace (by omega) (by omega) (by omega) (by omega), ?_⟩
            rintro _ _ ⟨rfl, rfl⟩
            try simp only [hm_q.s.r18]
            refine ⟨hm_q.s.o, _, c_Mo_wonAt hm_q hto ⟨hx0, by omega⟩ ⟨ha_, by omega⟩ ⟨hy0, by omega⟩ ⟨hb0, by omega⟩, ?_⟩
            rintro _ _ ⟨rfl, rfl⟩
            try simp only [hm_q.s.r18]
            refine ⟨⟨25600, hm_q.s.k90, (hpl (by omega)).1, (hpl (by omega)).2⟩, ?_⟩
            rw [iw_s (x := b + 1) (by omega) (by omega)]
            exact qKL3 _ (by omega) ⟨⟨by omega, by omega, by omega, by omega⟩, fun e he => by rw [zup_off he]; exact hF e he, WN_1 ⟨by omega, by omega, by omega, by omega⟩ ⟨hx0, by omega⟩ ⟨ha_, by omega⟩ ⟨hy0, by omega⟩ ⟨hb0, by omega⟩ rfl hW⟩)
        refine T_Mo_laysWon_55 ?_
        refine ⟨hm_q.s.o, _, c_Mo_questions hm_q (Or.inr rfl), ?_⟩
        rintro _ _ ⟨rfl, rfl⟩
        refine ⟨hm_q.s.o, _, c_Mo_questions hm_q (Or.inr rfl), ?_⟩
        rintro _ _ ⟨rfl, rfl⟩
        rw [i3_q]
        refine ⟨fun qc_1 => ?_, fun qc_1 => ?_⟩
        · skip
          rw [iw_s (x := a + 1) (by omega) (by omega)]
          exact qKL1 m9_q (by omega) ⟨⟨by omega, by omega⟩, hF, WN_w hW (fun x' a' y' b' x0_q x1_q a0_q a1_q y0 y1 b0 b1 hl => by unfold wPl at hl ⊢; omega)⟩
        · skip
          exact qL3 0 m9_q (by omega) ⟨⟨by decide, by omega, by omega, by omega⟩, hF, hW⟩)
      refine T_Mo_laysWon_46 ?_
      refine ⟨fun qc_1 => ?_, fun qc_1 => ?_⟩
      · skip
        rw [iw_s (x := x + 1) (by omega) (by omega)]
        exact qKL0 m9_q (by omega) ⟨by omega, hF, WN_w hW (fun x' a' y' b' x0_q x1_q a0_q a1_q y0 y1 b0 b1 hl => by unfold wPl at hl ⊢; omega)⟩
      · skip
        exact qL2 0 m9_q (by omega) ⟨⟨by decide, by omega, by omega⟩, hF, hW⟩)
    refine T_Mo_laysWon_27 ?_
    refine ⟨hm_q.s.o, _, c_Mo_questions hm_q (Or.inl rfl), ?_⟩
    rintro _ _ ⟨rfl, rfl⟩
    
    refine ⟨hm_q.s.o, _, c_Mo_questions hm_q (Or.inl rfl), ?_⟩
    rintro _ _ ⟨rfl, rfl⟩
    rw [i1_q]
    refine ⟨fun qc_1 => ?_, fun qc_1 => ?_⟩
    · skip
      exact ⟨hF, WN_w hW (fun x' a' y' b' x0_q x1_q a0_q a1_q y0 y1 b0 b1 hl => by unfold wPl at hl ⊢; omega)⟩
    · skip
      exact qL1 0 m9_q (by omega) ⟨⟨by decide, by omega⟩, hF, hW⟩)
  refine S_Mo_laysWon ?_
  refine ⟨h.s.o, _, c_Mo_answers h (Or.inl rfl), ?_⟩
  rintro _ _ ⟨rfl, rfl⟩
  refine ⟨h.s.o, _, c_Mo_answers h (Or.inl rfl), ?_⟩
  rintro _ _ ⟨rfl, rfl⟩
  refine ⟨h.s.o, _, c_Mo_answers h (Or.inr rfl), ?_⟩
  rintro _ _ ⟨rfl, rfl⟩
  refine ⟨h.s.o, _, c_Mo_answers h (Or.inr rfl), ?_⟩
  rintro _ _ ⟨rfl, rfl⟩
  rw [i2_q, i4_q]
  exact qL0 0 m (by omega) ⟨by decide, fun _ _ => rfl, fun x a y b x0_q x1_q a0_q a1_q y0 y1 b0 b1 hl => by unfold wPl at hl; omega⟩
theorem c_Mo_pairRows {d : Nat} {kd : ZK} {m : ZM} {G : GR} (h : MG kd m G) (ht : 0 < G 0) : CtL (d + 2) M_Mo_pairRows [(2, 78)] kd m (fun x m1_q => ((x ≤ 70000 ↔ rw2 G) ∧ (rw2 G → x = (G 2 * G 2) ^ (G 0 * G 0).toNat)) ∧ m = m1_q) := by
  have r0 := h.s.r0
  have r1_q := h.s.r1
  have r2 := h.s.r2
  have r3 := h.s.r3
  have r4 := h.s.r4
  have r5_q := h.s.r5
  have r7 := h.s.r7
  have r12 := h.s.r12
  have r13 := h.s.r13
  have r15 := h.s.r15
  have r17 := h.s.r17
  have r18 := h.s.r18
  have r19 := h.s.r19
  have r20 := h.s.r20
  have r21 := h.s.r21
  have r22 := h.s.r22
  have hok := h.ok.1
  have hq0 : nQ G 0 = G 0 := rfl
  have hq1 : nQ G 1 = G 1 := rfl
  have ha0 : nA G 0 = G 2 := rfl
  have ha1 : nA G 1 = G 3 := rfl
  have hto : 0 < G 0 := ht
  have tA := fun p => h.ok.tA hto p
  have tQ := fun p => h.ok.tQ hto p
  have r0 := rM0
  have r1_q := rM1
  have htt := h.ok.2.1 ht
  have hA1 := zmul_in (a := G 2) (b := G 2) (A := 4) (B := 4) (by omega) (by omega)
  have hN1 := zmul_in (a := G 0) (b := G 0) (A := 5) (B := 5) (by omega) (by omega)
  have hA2 : 1 ≤ G 2 * G 2 := by
    have := Int.mul_le_mul (show 1 ≤ G 2 by omega) (show 1 ≤ G 2 by omega) (by decide) (show 0 ≤ G 2 by omega)
    omega
  have i1_q : iw (nQ G 0 * nQ G 0) = G 0 * G 0 := by rw [hq0]; exact iw_s (by omega) (by omega)
  have i2_q : iw (nA G 0 * nA G 0) = G 2 * G 2 := by rw [ha0]; exact iw_s (by omega) (by omega)
  unfold rw2
  have qL0 := zfor1 ((G 0 * G 0)) (fun (i : Int) (v : Int) => Ev (d + 2) M_Mo_pairRows 0 0 4 [(2, 78), (1, v), zJ, (0, i)] [] kd m (zqL kd (fun x m1_q => ((x ≤ 70000 ↔ (G 2 * G 2) ^ (G 0 * G 0).toNat ≤ 70000) ∧ ((G 2 * G 2) ^ (G 0 * G 0).toNat ≤ 70000 → x = (G 2 * G 2) ^ (G 0 * G 0).toNat)) ∧ m = m1_q))) (fun (i : Int) (v : Int) => 0 ≤ i ∧ v = (G 2 * G 2) ^ i.toNat ∧ v ≤ 1120000) (by
    intro i v hb_q hI0 qKL0
    obtain ⟨hi0, hv, hv2⟩ := hI0
    have hp : (0 : Int) < (G 2 * G 2) ^ i.toNat := Int.pow_pos (by omega)
    have hmn := pow_mn (a := (G 2 * G 2)) hA2 (show i.toNat ≤ (G 0 * G 0).toNat by omega)
    have hzc := zcmp_g (x := v) (y := 70000)
    refine T_Mo_pairRows_4 ?_
    refine ⟨h.s.o, _, c_Mo_questions h (Or.inl rfl), ?_⟩
    rintro _ _ ⟨rfl, rfl⟩
    
    refine ⟨h.s.o, _, c_Mo_questions h (Or.inl rfl), ?_⟩
    rintro _ _ ⟨rfl, rfl⟩
    rw [i1_q]
    refine ⟨fun qc_1 => ?_, fun qc_1 => ?_⟩
    · skip
      first | (rw [show i = (G 0 * G 0) by omega] at hv; exact ⟨⟨by rw [← hv], fun _ => hv⟩, rfl⟩) | exact ⟨⟨by omega, fun z => absurd z (by omega)⟩, rfl⟩
    · skip
      refine ⟨fun qc_2 => ?_, fun qc_2 => ?_⟩
      · skip
        first | (rw [show i = (G 0 * G 0) by omega] at hv; exact ⟨⟨by rw [← hv], fun _ => hv⟩, rfl⟩) | exact ⟨⟨by omega, fun z => absurd z (by omega)⟩, rfl⟩
      · skip
        refine ⟨h.s.o, _, c_Mo_answers h (Or.inl rfl), ?_⟩
        rintro _ _ ⟨rfl, rfl⟩
        refine ⟨h.s.o, _, c_Mo_answers h (Or.inl rfl), ?_⟩
        rintro _ _ ⟨rfl, rfl⟩
        rw [i2_q, iw_s (x := i + 1) (by omega) (by omega)]
        have hvA := zmul_in (a := v) (b := (G 2 * G 2)) (A := 70000) (B := 16) (by omega) (by omega)
        rw [lw_s (x := v * (G 2 * G 2)) (by omega) (by omega)]
        exact qKL0 _ (by omega) ⟨by omega, by rw [hv, show (i + 1).toNat = i.toNat + 1 by omega, Int.pow_succ], by omega⟩)
  refine S_Mo_pairRows ?_
  try simp only [r0, r1_q, r2, r3, r4, r5_q, r7, r12, r13, r15, r17, r18, r19, r20, r21, r22]
  exact qL0 0 1 (by omega) ⟨by decide, by simp, by decide⟩
theorem c_Mo_pairWorth {d : Nat} {kd : ZK} {m : ZM} {G : GR} {c : Int} (h : MG kd m G) (ht : 0 < G 0) (h2 : G 0 ≤ 2) (hW : WN G c m (wPl 4 0 0 0)) (hr : ∀ q, 0 ≤ q → q < (G 0 * G 0) → 0 ≤ m 91 q ∧ m 91 q < (G 2 * G 2)) : CtI (d + 2) M_Mo_pairWorth [(2, 78)] kd m (qE m (tHigh (G 0 * G 0) (G 1 * G 1) (G 3 * G 3) (fTn G c (G 3 * G 3)) (m 91))) := by
  have r0 := h.s.r0
  have r1_q := h.s.r1
  have r2 := h.s.r2
  have r3 := h.s.r3
  have r4 := h.s.r4
  have r5_q := h.s.r5
  have r7 := h.s.r7
  have r12 := h.s.r12
  have r13 := h.s.r13
  have r15 := h.s.r15
  have r17 := h.s.r17
  have r18 := h.s.r18
  have r19 := h.s.r19
  have r20 := h.s.r20
  have r21 := h.s.r21
  have r22 := h.s.r22
  have hok := h.ok.1
  have hq0 : nQ G 0 = G 0 := rfl
  have hq1 : nQ G 1 = G 1 := rfl
  have ha0 : nA G 0 = G 2 := rfl
  have ha1 : nA G 1 = G 3 := rfl
  have hto : 0 < G 0 := ht
  have tA := fun p => h.ok.tA hto p
  have tQ := fun p => h.ok.tQ hto p
  have r0 := rM0
  have r1_q := rM1
  have hz := sizes2 h.ok hto h2
  have i1_q : iw (nQ G 0 * nQ G 0) = G 0 * G 0 := by rw [hq0]; exact iw_s (by omega) (by omega)
  have i2_q : iw (nA G 0 * nA G 0) = G 2 * G 2 := by rw [ha0]; exact iw_s (by omega) (by omega)
  have i3_q : iw (nQ G 1 * nQ G 1) = G 1 * G 1 := by rw [hq1]; exact iw_s (by omega) (by omega)
  have i4_q : iw (nA G 1 * nA G 1) = G 3 * G 3 := by rw [ha1]; exact iw_s (by omega) (by omega)
  have hfb := fun q a i => fTn_in h.ok c (G 3 * G 3) q a i
  have hzb := fun i => zsum_le (C := 81) (f := fun q => fTn G c (G 3 * G 3) q (m 91 q) i) (by decide) (fun q => hfb q _ i) (G 0 * G 0).toNat
  have hrd : ∀ x y b, 0 ≤ x → x < G 0 * G 0 → 0 ≤ y → y < G 1 * G 1 → 0 ≤ b → b < G 3 * G 3 → m 90 (wPl x (m 91 x) y b) = fTn G c (G 3 * G 3) x (m 91 x) (y * (G 3 * G 3) + b) := fun x y b x0_q x1_q y0 y1 b0 b1 => by
    have hrx := hr x x0_q x1_q
    exact hW x (m 91 x) y b x0_q x1_q hrx.1 hrx.2 y0 y1 b0 b1 (by unfold wPl; omega)
  have qL0 := zfor1 ((G 1 * G 1)) (fun (y : Int) (n : Int) => Ev (d + 2) M_Mo_pairWorth 0 0 29 [(2, 78), (0, (G 3 * G 3)), (0, (G 0 * G 0)), (0, n), (0, y), zJ, zJ, zJ, zJ] [] kd m (zqI kd (qE m (tHigh (G 0 * G 0) (G 1 * G 1) (G 3 * G 3) (fTn G c (G 3 * G 3)) (m 91))))) (fun (y : Int) (n : Int) => 0 ≤ y ∧ n = zsum y.toNat (fun g => tHi (G 0 * G 0) (G 3 * G 3) (fTn G c (G 3 * G 3)) (m 91) g) ∧ 0 ≤ n ∧ n ≤ 324 * y) (by
    intro y n hb_q hI0 qKL0
    obtain ⟨hy0, hn, n0_q, n1_q⟩ := hI0
    have hty : 0 ≤ tHi (G 0 * G 0) (G 3 * G 3) (fTn G c (G 3 * G 3)) (m 91) y ∧ tHi (G 0 * G 0) (G 3 * G 3) (fTn G c (G 3 * G 3)) (m 91) y ≤ 324 := zhi_bd2 _ (fun j _ _ => by have := hzb (y * (G 3 * G 3) + j); unfold zS_; omega)
    have qL1 := zfor1 ((G 3 * G 3)) (fun (b : Int) (f : Int) => Ev (d + 2) M_Mo_pairWorth 0 0 51 [(2, 78), (0, (G 3 * G 3)), (0, (G 0 * G 0)), (0, n), (0, y), (0, f), (0, b), zJ, zJ] [] kd m (zqI kd (qE m (tHigh (G 0 * G 0) (G 1 * G 1) (G 3 * G 3) (fTn G c (G 3 * G 3)) (m 91))))) (fun (b : Int) (f : Int) => (0 ≤ b ∧ y < (G 1 * G 1)) ∧ f = hi0 (fun b => (zS_ (fTn G c (G 3 * G 3)) (m 91) (G 0 * G 0)) (y * (G 3 * G 3) + b)) b.toNat) (by
      intro b f hb_q hI1 qKL1
      obtain ⟨⟨hb0, hyl⟩, hf⟩ := hI1
      have h1 := hi0_1 (f := fun b => (zS_ (fTn G c (G 3 * G 3)) (m 91) (G 0 * G 0)) (y * (G 3 * G 3) + b)) hb0
      try simp only [] at h1
      have qL2 := zfor1 ((G 0 * G 0)) (fun (x : Int) (s : Int) => Ev (d + 2) M_Mo_pairWorth 0 0 63 [(2, 78), (0, (G 3 * G 3)), (0, (G 0 * G 0)), (0, n), (0, y), (0, f), (0, b), (0, s), (0, x)] [] kd m (zqI kd (qE m (tHigh (G 0 * G 0) (G 1 * G 1) (G 3 * G 3) (fTn G c (G 3 * G 3)) (m 91))))) (fun (x : Int) (s : Int) => (0 ≤ x ∧ b < (G 3 * G 3)) ∧ s = zsum x.toNat (fun q => fTn G c (G 3 * G 3) q (m 91 q) (y * (G 3 * G 3) + b)) ∧ 0 ≤ s ∧ s ≤ 81 * x) (by
        intro x s hb_q hI2 qKL2
        obtain ⟨⟨hx0, hbl⟩, hs, s0_q, s1_q⟩ := hI2
        have hfx := hfb x (m 91 x) (y * (G 3 * G 3) + b)
        have hrx := fun e => hr x hx0 e
        refine T_Mo_pairWorth_63 ?_
        try simp only [r0, r1_q, r2, r3, r4, r5_q, r7, r12, r13, r15, r17, r18, r19, r20, r21, r22]
        refine ⟨fun qc_1 => ?_, fun qc_1 => ?_⟩
        · skip
          rw [iw_s (x := b + 1) (by omega) (by omega)]
          exact qKL1 _ (by omega) ⟨⟨by omega, hyl⟩, by rw [h1, ← hf, hs, show x = (G 0 * G 0) by omega]; rfl⟩
        · skip
          refine ⟨h.s.o, h.s.o, ⟨4, h.s.k91, by omega, by omega⟩, ?_⟩
          refine ⟨_, c_Mo_wonPlace (by omega) (by have := hrx (by omega); omega) (by omega) (by omega), ?_⟩
          rintro _ _ ⟨rfl, rfl⟩
          try simp only [r0, r1_q, r2, r3, r4, r5_q, r7, r12, r13, r15, r17, r18, r19, r20, r21, r22]
          rw [hrd x y b hx0 (by omega) hy0 hyl hb0 hbl]
          have hpl := wPl_in (x := x) (a := m 91 x) (y := y) (b := b) ⟨hx0, by omega⟩ (by have := hrx (by omega); omega) ⟨hy0, by omega⟩ ⟨hb0, by omega⟩; refine ⟨⟨25600, h.s.k90, hpl.1, hpl.2⟩, ?_⟩
          rw [iw_s (x := x + 1) (by omega) (by omega)]
          rw [iw_s (by omega) (by omega)]
          exact qKL2 _ (by omega) ⟨⟨by omega, hbl⟩, by rw [zsum_1 hx0, ← hs], by omega, by omega⟩)
      refine T_Mo_pairWorth_51 ?_
      try simp only [r0, r1_q, r2, r3, r4, r5_q, r7, r12, r13, r15, r17, r18, r19, r20, r21, r22]
      refine ⟨fun qc_1 => ?_, fun qc_1 => ?_⟩
      · skip
        have hfY : f = tHi (G 0 * G 0) (G 3 * G 3) (fTn G c (G 3 * G 3)) (m 91) y := by
          rw [hf, show b = (G 3 * G 3) by omega, show (G 3 * G 3).toNat = ((G 3 * G 3) - 1).toNat + 1 by omega, hi0_zhi _ (fun i _ _ => (by have := hzb (y * (G 3 * G 3) + i); unfold zS_; omega))]
          rfl
        rw [iw_s (x := n + f) (by omega) (by omega), iw_s (x := y + 1) (by omega) (by omega)]
        exact qKL0 _ (by omega) ⟨by omega, by rw [zsum_1 hy0, ← hn, hfY], by omega, by omega⟩
      · skip
        exact qL2 0 0 (by omega) ⟨⟨by decide, by omega⟩, rfl, by decide, by decide⟩)
    refine T_Mo_pairWorth_29 ?_
    try simp only [r0, r1_q, r2, r3, r4, r5_q, r7, r12, r13, r15, r17, r18, r19, r20, r21, r22]
    refine ⟨h.s.o, _, c_Mo_questions h (Or.inr rfl), ?_⟩
    rintro _ _ ⟨rfl, rfl⟩
    try simp only [r0, r1_q, r2, r3, r4, r5_q, r7, r12, r13, r15, r17, r18, r19, r20, r21, r22]
    
    refine ⟨h.s.o, _, c_Mo_questions h (Or.inr rfl), ?_⟩
    rintro _ _ ⟨rfl, rfl⟩
    try simp only [r0, r1_q, r2, r3, r4, r5_q, r7, r12, r13, r15, r17, r18, r19, r20, r21, r22]
    rw [i3_q]
    refine ⟨fun qc_1 => ?_, fun qc_1 => ?_⟩
    · skip
      rw [show y = (G 1 * G 1) by omega] at hn
      exact ⟨hn, rfl⟩
    · skip
      exact qL1 0 0 (by omega) ⟨⟨by decide, by omega⟩, rfl⟩)
  refine S_Mo_pairWorth ?_
  try simp only [r0, r1_q, r2, r3, r4, r5_q, r7, r12, r13, r15, r17, r18, r19, r20, r21, r22]
  refine ⟨h.s.o, _, c_Mo_answers h (Or.inr rfl), ?_⟩
  rintro _ _ ⟨rfl, rfl⟩
  try simp only [r0, r1_q, r2, r3, r4, r5_q, r7, r12, r13, r15, r17, r18, r19, r20, r21, r22]
  refine ⟨h.s.o, _, c_Mo_answers h (Or.inr rfl), ?_⟩
  rintro _ _ ⟨rfl, rfl⟩
  try simp only [r0, r1_q, r2, r3, r4, r5_q, r7, r12, r13, r15, r17, r18, r19, r20, r21, r22]
  refine ⟨h.s.o, _, c_Mo_questions h (Or.inl rfl), ?_⟩
  rintro _ _ ⟨rfl, rfl⟩
  try simp only [r0, r1_q, r2, r3, r4, r5_q, r7, r12, r13, r15, r17, r18, r19, r20, r21, r22]
  refine ⟨h.s.o, _, c_Mo_questions h (Or.inl rfl), ?_⟩
  rintro _ _ ⟨rfl, rfl⟩
  try simp only [r0, r1_q, r2, r3, r4, r5_q, r7, r12, r13, r15, r17, r18, r19, r20, r21, r22]
  rw [i4_q, i1_q]
  exact qL0 0 0 (by omega) ⟨by decide, rfl, by decide, by decide⟩
theorem tw_most {G : GR} (ho : GOK G) (ht : 0 < G 0) (w : Int) : isMost (G 0 * G 0) (G 2 * G 2) (G 1 * G 1) (G 3 * G 3) (fTn G w (G 3 * G 3)) (hi0 (fun e => tHigh (G 0 * G 0) (G 1 * G 1) (G 3 * G 3) (fTn G w (G 3 * G 3)) (fun q => dgt (G 2 * G 2) e q.toNat)) ((G 2 * G 2) ^ (G 0 * G 0).toNat).toNat) := by
  have h1 := ho.2.1 ht
  have hA : 0 < G 2 * G 2 := Int.mul_pos (by omega) (by omega)
  have hN_q : 0 ≤ G 0 * G 0 := Int.mul_nonneg (by omega) (by omega)
  have hp : (0 : Int) < (G 2 * G 2) ^ (G 0 * G 0).toNat := Int.pow_pos hA
  rw [show ((G 2 * G 2) ^ (G 0 * G 0).toNat).toNat = ((G 2 * G 2) ^ (G 0 * G 0).toNat - 1).toNat + 1 by omega, hi0_zhi _ (fun i _ _ => tHigh_nn (fun q a i => (fTn_in ho w (G 3 * G 3) q a i).1))]
  constructor
  · intro r hr
    obtain ⟨c, qc_0, qc_1, qc_2⟩ := dgt_all hA (fun k => r k) (G 0 * G 0).toNat (fun k hk => hr k (by omega) (by omega))
    have e := tHigh_congr (ng := G 1 * G 1) (nr := G 3 * G 3) (f := fTn G w (G 3 * G 3)) (nq := G 0 * G 0) (r := r) (s := fun q => dgt (G 2 * G 2) c q.toNat) (fun q q0 q1_q => by
      have := qc_2 q.toNat (by omega)
      rw [this, show ((q.toNat : Nat) : Int) = q by omega])
    rw [e]
    exact zhi_le (h := (fun e => tHigh (G 0 * G 0) (G 1 * G 1) (G 3 * G 3) (fTn G w (G 3 * G 3)) (fun q => dgt (G 2 * G 2) e q.toNat))) _ c qc_0 (by omega)
  · obtain ⟨j, j0, j1, e⟩ := zhi_at (h := (fun e => tHigh (G 0 * G 0) (G 1 * G 1) (G 3 * G 3) (fTn G w (G 3 * G 3)) (fun q => dgt (G 2 * G 2) e q.toNat))) ((G 2 * G 2) ^ (G 0 * G 0).toNat - 1).toNat
    exact ⟨fun q => dgt (G 2 * G 2) j q.toNat, fun q _ _ => dgt_in hA, by rw [e]⟩
theorem c_Mo_twice {d : Nat} {kd : ZK} {m : ZM} {G : GR} {w : Int} (h : MG kd m G) : CtI (d + 6) M_Mo_twice [(2, 78), (0, w)] kd m (fun v m1_q => pTwice G w v ∧ MF m m1_q) := by
  have r0 := h.s.r0
  have r1_q := h.s.r1
  have r2 := h.s.r2
  have r3 := h.s.r3
  have r4 := h.s.r4
  have r5_q := h.s.r5
  have r7 := h.s.r7
  have r12 := h.s.r12
  have r13 := h.s.r13
  have r15 := h.s.r15
  have r17 := h.s.r17
  have r18 := h.s.r18
  have r19 := h.s.r19
  have r20 := h.s.r20
  have r21 := h.s.r21
  have r22 := h.s.r22
  have hok := h.ok.1
  have hq0 : nQ G 0 = G 0 := rfl
  have hq1 : nQ G 1 = G 1 := rfl
  have ha0 : nA G 0 = G 2 := rfl
  have ha1 : nA G 1 = G 3 := rfl
  have key : told G → 0 ≤ w → w ≤ 1 → rw2 G → ∀ v, (if v = 0 then (1 : Int) else 0) = w → Ev (d + 6) M_Mo_twice 0 0 43 [(2, 78), zJ, zJ, zJ, zJ, zJ, zJ, zJ, zJ, zJ, zJ] [(0, v), (2, 78)] kd m (zqI kd (fun v m1_q => pTwice G w v ∧ MF m m1_q)) := by
    intro ht hw0 hw1 hrw v hvw
    have h2 := rw2_2 h.ok ht hrw
    have hto : 0 < G 0 := ht
    have tA := fun p => h.ok.tA hto p
    have tQ := fun p => h.ok.tQ hto p
    have r0 := rM0
    have r1_q := rM1
    have hz := sizes2 h.ok hto h2
    have i1_q : iw (nQ G 0 * nQ G 0) = G 0 * G 0 := by rw [hq0]; exact iw_s (by omega) (by omega)
    have i2_q : iw (nA G 0 * nA G 0) = G 2 * G 2 := by rw [ha0]; exact iw_s (by omega) (by omega)
    have i3_q : iw (nQ G 1 * nQ G 1) = G 1 * G 1 := by rw [hq1]; exact iw_s (by omega) (by omega)
    have i4_q : iw (nA G 1 * nA G 1) = G 3 * G 3 := by rw [ha1]; exact iw_s (by omega) (by omega)
    have hNb : 1 ≤ ((G 2 * G 2) ^ (G 0 * G 0).toNat) ∧ ((G 2 * G 2) ^ (G 0 * G 0).toNat) ≤ 70000 := ⟨(by have : (0 : Int) < ((G 2 * G 2) ^ (G 0 * G 0).toNat) := Int.pow_pos (by omega); omega), hrw⟩
    have qL0 := zfor2 (((G 2 * G 2) ^ (G 0 * G 0).toNat)) (fun (e : Int) (mm : ZM) (b : Int) => Ev (d + 6) M_Mo_twice 0 0 69 [(2, 78), zJ, (0, (G 2 * G 2)), (1, ((G 2 * G 2) ^ (G 0 * G 0).toNat)), zJ, (0, b), (1, e), zJ, zJ, zJ, zJ] [] kd mm (zqI kd (fun v m1_q => pTwice G w v ∧ MF m m1_q))) (fun (e : Int) (mm : ZM) (b : Int) => 0 ≤ e ∧ (∀ c, c ≠ 90 → c ≠ 91 → mm c = m c) ∧ WN G w mm (wPl 4 0 0 0) ∧ b = hi0 (fun e => tHigh (G 0 * G 0) (G 1 * G 1) (G 3 * G 3) (fTn G w (G 3 * G 3)) (fun q => dgt (G 2 * G 2) e q.toNat)) e.toNat) (by
      intro e mm b hb_q hI0 qKL0
      obtain ⟨he0, hF, hW, hb_⟩ := hI0
      have hm_q : MG kd mm G := h.mf (MF.of (fun c hc_q => hF c (by omega) (by omega)))
      have hzl := zcmp_l (x := e) (y := ((G 2 * G 2) ^ (G 0 * G 0).toNat))
      have qL1 := zfor2 ((G 0 * G 0)) (fun (x : Int) (m9_q : ZM) (l : Int) => Ev (d + 6) M_Mo_twice 0 0 83 [(2, 78), zJ, (0, (G 2 * G 2)), (1, ((G 2 * G 2) ^ (G 0 * G 0).toNat)), zJ, (0, b), (1, e), zJ, (1, l), zJ, (0, x)] [] kd m9_q (zqI kd (fun v m1_q => pTwice G w v ∧ MF m m1_q))) (fun (x : Int) (m9_q : ZM) (l : Int) => (0 ≤ x ∧ e < ((G 2 * G 2) ^ (G 0 * G 0).toNat)) ∧ ((∀ c, c ≠ 91 → m9_q c = mm c) ∧ ∀ q, 0 ≤ q → q < x → m9_q 91 q = dgt (G 2 * G 2) e q.toNat) ∧ l = e / (G 2 * G 2) ^ x.toNat) (by
        intro x m9_q l hb_q hI1 qKL1
        obtain ⟨⟨hx0, hel⟩, ⟨hF9, hX9⟩, hl⟩ := hI1
        have hm9 : MG kd m9_q G := hm_q.mf (MF.of (fun c hc_q => hF9 c (by omega)))
        have hl0 : 0 ≤ l ∧ l ≤ 70000 := by
          have hp : (0 : Int) < (G 2 * G 2) ^ x.toNat := Int.pow_pos (by omega)
          have h5 := Int.ediv_nonneg he0 (Int.le_of_lt hp)
          have h6 := Int.ediv_le_self ((G 2 * G 2) ^ x.toNat) he0
          rw [← hl] at h5 h6
          omega
        refine T_Mo_twice_83 ?_
        try simp only [hm9.s.r19]
        refine ⟨hm9.s.o, _, c_Mo_questions hm9 (Or.inl rfl), ?_⟩
        rintro _ _ ⟨rfl, rfl⟩
        try simp only [hm9.s.r19]
        refine ⟨hm9.s.o, _, c_Mo_questions hm9 (Or.inl rfl), ?_⟩
        rintro _ _ ⟨rfl, rfl⟩
        try simp only [hm9.s.r19]
        rw [i1_q]
        refine ⟨fun qc_1 => ?_, fun qc_1 => ?_⟩
        · skip
          refine ⟨hm9.s.o, _, c_Mo_pairWorth hm9 hto h2 (fun x a y b x0_q x1_q a0_q a1_q y0 y1 b0 b1 hl2 => by rw [hF9 90 (by decide)]; exact hW x a y b x0_q x1_q a0_q a1_q y0 y1 b0 b1 hl2) (fun q q0 q1_q => by rw [hX9 q q0 (by omega)]; exact dgt_in (by omega)), ?_⟩
          rintro _ _ ⟨rfl, rfl⟩
          try simp only [hm9.s.r19]
          rw [lw_s (x := e + 1) (by omega) (by omega)]
          have hh := hi0_1 (f := (fun e => tHigh (G 0 * G 0) (G 1 * G 1) (G 3 * G 3) (fTn G w (G 3 * G 3)) (fun q => dgt (G 2 * G 2) e q.toNat))) he0
          try simp only [] at hh
          have hcg : tHigh (G 0 * G 0) (G 1 * G 1) (G 3 * G 3) (fTn G w (G 3 * G 3)) (m9_q 91) = tHigh (G 0 * G 0) (G 1 * G 1) (G 3 * G 3) (fTn G w (G 3 * G 3)) (fun q => dgt (G 2 * G 2) e q.toNat) := tHigh_congr (fun q q0 q1_q => hX9 q q0 (by omega))
          rw [hcg]
          exact qKL0 m9_q _ (by omega) ⟨by omega, fun c qc_1 qc_2 => by rw [hF9 c qc_2, hF c qc_1 qc_2], fun x a y b x0_q x1_q a0_q a1_q y0 y1 b0 b1 hl2 => by rw [hF9 90 (by decide)]; exact hW x a y b x0_q x1_q a0_q a1_q y0 y1 b0 b1 hl2, by rw [hh, ← hb_]⟩
        · skip
          refine ⟨hm9.s.o, (by omega), ⟨4, hm9.s.k91, by omega, by omega⟩, (by omega), ?_⟩
          rw [iw_s (x := x + 1) (by omega) (by omega)]
          have hd0 : Int.tmod l (G 2 * G 2) = dgt (G 2 * G 2) e x.toNat := by rw [Int.tmod_eq_emod_of_nonneg hl0.1, hl]; rfl
          have hdi := dgt_in (na := (G 2 * G 2)) (c := e) (k := x.toNat) (by omega)
          have hdd : Int.tdiv l (G 2 * G 2) = e / (G 2 * G 2) ^ (x + 1).toNat := by
            rw [Int.tdiv_eq_ediv_of_nonneg hl0.1, hl, Int.ediv_ediv_of_nonneg (Int.le_of_lt (Int.pow_pos (by omega))), show (x + 1).toNat = x.toNat + 1 by omega, Int.pow_succ]
          have hdb := Int.ediv_nonneg he0 (show (0 : Int) ≤ (G 2 * G 2) ^ (x + 1).toNat from Int.le_of_lt (Int.pow_pos (by omega)))
          have hdc := Int.ediv_le_self ((G 2 * G 2) ^ (x + 1).toNat) he0
          rw [hd0, hdd, lw_s (by omega) (by omega), iw_s (x := dgt (G 2 * G 2) e x.toNat) (by omega) (by omega)]
          refine qKL1 _ _ (by omega) ⟨⟨by omega, hel⟩, ⟨fun c hc_q => by rw [zup_off hc_q]; exact hF9 c hc_q, fun q q0 q1_q => ?_⟩, rfl⟩
          rw [zup_at]
          rcases (show q = x ∨ q < x by omega) with k | k
          · rw [k, gup_at]
          · rw [gup_off (by omega)]; exact hX9 q q0 k)
      refine T_Mo_twice_69 ?_
      refine ⟨fun qc_1 => ?_, fun qc_1 => ?_⟩
      · skip
        refine ⟨zcs_t ht (zcs_f (by omega) (zcs_t hw1 (zcs_t hrw ?_))), MF.of (fun c hc_q => hF c (by omega) (by omega))⟩
        rw [hb_, show e = ((G 2 * G 2) ^ (G 0 * G 0).toNat) by omega]
        exact tw_most h.ok ht w
      · skip
        exact qL1 0 mm e (by omega) ⟨⟨by decide, by omega⟩, ⟨fun _ _ => rfl, fun q q0 q1_q => by omega⟩, by simp⟩)
    refine T_Mo_twice_43 ⟨h.s.o, _, c_Mo_laysWon h hto h2, ?_⟩
    rintro m3_q ⟨f3_q, w3_q⟩
    rw [hvw] at w3_q
    have hm3 : MG kd m3_q G := h.mf (MF.of (fun c hc_q => f3_q c (by omega)))
    refine ⟨h.s.o, _, c_Mo_answers hm3 (Or.inl rfl), ?_⟩
    rintro _ _ ⟨rfl, rfl⟩
    refine ⟨h.s.o, _, c_Mo_answers hm3 (Or.inl rfl), ?_⟩
    rintro _ _ ⟨rfl, rfl⟩
    rw [i2_q]
    refine ⟨h.s.o, _, c_Mo_pairRows hm3 hto, ?_⟩
    rintro x11 m12_q ⟨⟨x1_q, x2_q⟩, rfl⟩
    rw [x2_q hrw]
    exact qL0 0 m3_q 0 (by omega) ⟨by decide, fun c qc_1 qc_2 => f3_q c qc_1, w3_q, rfl⟩
  refine S_Mo_twice ?_
  try simp only [r0, r1_q, r2, r3, r4, r5_q, r7, r12, r13, r15, r17, r18, r19, r20, r21, r22]
  refine ⟨h.s.o, _, c_Mo_hasGame h, ?_⟩
  rintro _ _ ⟨rfl, rfl⟩
  try simp only [r0, r1_q, r2, r3, r4, r5_q, r7, r12, r13, r15, r17, r18, r19, r20, r21, r22]
  refine ⟨fun qc_1 => ?_, fun qc_1 => ?_⟩
  · replace qc_1 := zb_eq0.1 qc_1
    exact ⟨zcs_f qc_1 rfl, MF.rf⟩
  · replace qc_1 := zb_ne0.1 qc_1
    refine ⟨_, c_Mo_in, ?_⟩
    rintro _ _ ⟨rfl, rfl⟩
    try simp only [r0, r1_q, r2, r3, r4, r5_q, r7, r12, r13, r15, r17, r18, r19, r20, r21, r22]
    refine ⟨fun qc_2 => ?_, fun qc_2 => ?_⟩
    · replace qc_2 := zb_ne0.1 qc_2
      refine ⟨h.s.o, _, c_Mo_pairRows h qc_1, ?_⟩
      rintro x8 m9_q ⟨gb, rfl⟩
      try simp only [r0, r1_q, r2, r3, r4, r5_q, r7, r12, r13, r15, r17, r18, r19, r20, r21, r22]
      have i9_q : (x8 ≤ 70000 ↔ rw2 G) ∧ True := ⟨gb.1, trivial⟩
      refine ⟨fun qc_3 => ?_, fun qc_3 => ?_⟩
      · skip
        refine ⟨fun qc_4 => ?_, fun qc_4 => ?_⟩
        · skip
          have hzc := zcmp_g (x := x8) (y := 70000)
          have hrw := i9_q.1.1 (by omega)
          first | exact key qc_1 qc_2.1 qc_2.2 hrw 0 (by rw [if_pos rfl]; omega) | exact key qc_1 qc_2.1 qc_2.2 hrw 1 (by rw [if_neg (by decide)]; omega)
        · skip
          have hzc := zcmp_g (x := x8) (y := 70000)
          have hrw := i9_q.1.1 (by omega)
          first | exact key qc_1 qc_2.1 qc_2.2 hrw 0 (by rw [if_pos rfl]; omega) | exact key qc_1 qc_2.1 qc_2.2 hrw 1 (by rw [if_neg (by decide)]; omega)
      · skip
        have hzc := zcmp_g (x := x8) (y := 70000)
        exact ⟨zcs_t qc_1 (zcs_f (by omega) (zcs_t qc_2.2 (zcs_f (fun z => by have := i9_q.1.2 z; omega) rfl))), MF.rf⟩
    · replace qc_2 := zb_eq0.1 (Classical.not_not.1 qc_2)
      exact ⟨zcs_t qc_1 (by rcases (show w < 0 ∨ (0 ≤ w ∧ ¬ w ≤ 1) by omega) with e | e; exact zcs_t e rfl; exact zcs_f (by omega) (zcs_f e.2 rfl)), MF.rf⟩
