/-! THE MODEL, second: what it looks at place by place -/
theorem zal_w {b c : Int} {f : Int → Prop} (h : zal b f) (k : c ≤ b) : zal c f := fun i h0 h1 => h i h0 (by omega)
theorem zal_e {b : Int} {f g : Int → Prop} (h : ∀ i, 0 ≤ i → i < b → (f i ↔ g i)) : zal b f ↔ zal b g := ⟨fun z i h0 h1 => (h i h0 h1).1 (z i h0 h1), fun z i h0 h1 => (h i h0 h1).2 (z i h0 h1)⟩
theorem c_Mo_isParity {d : Nat} {kd : ZK} {m : ZM} {G : GR} {x y s : Int} (h : MG kd m G) (hx : 0 ≤ x ∧ x < 5) (hy : 0 ≤ y ∧ y < 5) : CtI (d + 4) M_Mo_isParity [(2, 78), (0, x), (0, y), (0, s)] kd m (qE m (zb (isPar G x y s))) := by
  have r0 := h.s.r0
  have r1_q := h.s.r1
  have r2 := h.s.r2
  have r3 := h.s.r3
  have r4 := h.s.r4
  have r5_q := h.s.r5
  have r7 := h.s.r7
  have r12 := h.s.r12
  have r13 := h.s.r13
  have r15 := h.s.r15
  have r17 := h.s.r17
  have r18 := h.s.r18
  have r19 := h.s.r19
  have r20 := h.s.r20
  have r21 := h.s.r21
  have r22 := h.s.r22
  have hok := h.ok.1
  have hq0 : nQ G 0 = G 0 := rfl
  have hq1 : nQ G 1 = G 1 := rfl
  have ha0 : nA G 0 = G 2 := rfl
  have ha1 : nA G 1 = G 3 := rfl
  have qL0 := zfor1 (G 2) (fun (a : Int) (t : Int) => Ev (d + 4) M_Mo_isParity 0 0 6 [(2, 78), (0, x), (0, y), (0, s), (0, t), (0, a), zJ] [] kd m (zqI kd (qE m (zb (isPar G x y s))))) (fun (a : Int) (t : Int) => 0 ≤ a ∧ t = zb (zal a (fun a => zal (G 3) fun b => (gV G x y a b = 1 ↔ (a + b) % 2 = s)))) (by
    intro a t hb_q hI0 qKL0
    obtain ⟨ha_, ht⟩ := hI0
    have qL1 := zfor1 (G 3) (fun (b : Int) (t2_q : Int) => Ev (d + 4) M_Mo_isParity 0 0 19 [(2, 78), (0, x), (0, y), (0, s), (0, t2_q), (0, a), (0, b)] [] kd m (zqI kd (qE m (zb (isPar G x y s))))) (fun (b : Int) (t2_q : Int) => 0 ≤ b ∧ a < G 2 ∧ t2_q = zb (zal a (fun a => zal (G 3) fun b => (gV G x y a b = 1 ↔ (a + b) % 2 = s)) ∧ zal b (fun b => (gV G x y a b = 1 ↔ (a + b) % 2 = s)))) (by
      intro b t2_q hb_q hI1 qKL1
      obtain ⟨hb0, hal, ht2⟩ := hI1
      have hm_q : Int.tmod (iw (a + b)) 2 = (a + b) % 2 := by rw [iw_s (by omega) (by omega), tmod2 (by omega)]
      refine T_Mo_isParity_19 ?_
      try simp only [r0, r1_q, r2, r3, r4, r5_q, r7, r12, r13, r15, r17, r18, r19, r20, r21, r22]
      refine ⟨h.s.o, _, c_Mo_answers h (Or.inr rfl), ?_⟩
      rintro _ _ ⟨rfl, rfl⟩
      refine ⟨fun qc_1 => ?_, fun qc_1 => ?_⟩
      · try rw [hm_q] at qc_1
        rw [iw_s (x := a + 1) (by omega) (by omega)]
        exact qKL0 t2_q (by omega) ⟨by omega, by rw [ht2, show b = G 3 by omega]; exact zb_congr (zal_s ha_).symm⟩
      · try rw [hm_q] at qc_1
        refine ⟨fun qc_2 => ?_, fun qc_2 => ?_⟩
        · try rw [hm_q] at qc_2
          rw [iw_s (x := b + 1) (by omega) (by omega)]
          exact qKL1 0 (by omega) ⟨by omega, by omega, (zbF (fun z => zb_eq0.1 (ht2.symm.trans qc_2) ⟨z.1, ((zal_s hb0).1 z.2).1⟩))⟩
        · try rw [hm_q] at qc_2
          refine ⟨h.s.o, _, c_Mo_isWin h (by omega) (by omega) (by omega) (by omega), ?_⟩
          rintro _ _ ⟨rfl, rfl⟩
          refine ⟨fun qc_3 => ?_, fun qc_3 => ?_⟩
          · try rw [hm_q] at qc_3
            refine T_Mo_isParity_60 ⟨fun qc_4 => ?_, fun qc_4 => ?_⟩
            · rw [iw_s (x := b + 1) (by omega) (by omega)]
              exact qKL1 0 (by omega) ⟨by omega, by omega, (zbF (fun z => qc_3 (((zal_s hb0).1 z.2).2.1 (zb_ne0.1 qc_4))))⟩
            · rw [iw_s (x := b + 1) (by omega) (by omega)]
              exact qKL1 1 (by omega) ⟨by omega, by omega, (zbT ⟨(zb_ne0.1 (fun e_ => qc_2 (ht2.trans e_))).1, (zal_s hb0).2 ⟨(zb_ne0.1 (fun e_ => qc_2 (ht2.trans e_))).2, ⟨fun p => absurd p (zb_eq0.1 (Classical.not_not.1 qc_4)), fun r => absurd r qc_3⟩⟩⟩)⟩
          · try rw [hm_q] at qc_3
            refine T_Mo_isParity_60 ⟨fun qc_4 => ?_, fun qc_4 => ?_⟩
            · rw [iw_s (x := b + 1) (by omega) (by omega)]
              exact qKL1 0 (by omega) ⟨by omega, by omega, (zbF (fun z => qc_4 (zb_t (((zal_s hb0).1 z.2).2.2 (Classical.not_not.1 qc_3)))))⟩
            · rw [iw_s (x := b + 1) (by omega) (by omega)]
              exact qKL1 1 (by omega) ⟨by omega, by omega, (zbT ⟨(zb_ne0.1 (fun e_ => qc_2 (ht2.trans e_))).1, (zal_s hb0).2 ⟨(zb_ne0.1 (fun e_ => qc_2 (ht2.trans e_))).2, ⟨fun _ => Classical.not_not.1 qc_3, fun _ => zb_eq1.1 (Classical.not_not.1 qc_4)⟩⟩⟩)⟩)
    refine T_Mo_isParity_6 ?_
    try simp only [r0, r1_q, r2, r3, r4, r5_q, r7, r12, r13, r15, r17, r18, r19, r20, r21, r22]
    refine ⟨h.s.o, _, c_Mo_answers h (Or.inl rfl), ?_⟩
    rintro _ _ ⟨rfl, rfl⟩
    refine ⟨fun qc_1 => ?_, fun qc_1 => ?_⟩
    · skip
      rw [show a = G 2 by omega] at ht
      exact ⟨by rw [ht]; exact zb_01, by rw [ht]; rfl, rfl⟩
    · skip
      exact qL1 0 t (by omega) ⟨by decide, by omega, by rw [ht]; exact zb_congr ⟨fun z => ⟨z, zal_0 _⟩, fun z => z.1⟩⟩)
  refine S_Mo_isParity ?_
  try simp only [r0, r1_q, r2, r3, r4, r5_q, r7, r12, r13, r15, r17, r18, r19, r20, r21, r22]
  exact qL0 0 1 (by omega) ⟨by decide, (zbT (zal_0 _))⟩
theorem c_Mo_signOf {d : Nat} {kd : ZK} {m : ZM} {G : GR} {x y : Int} (h : MG kd m G) (hx : 0 ≤ x ∧ x < 5) (hy : 0 ≤ y ∧ y < 5) : CtI (d + 5) M_Mo_signOf [(2, 78), (0, x), (0, y)] kd m (qE m (gS G x y)) := by
  have r0 := h.s.r0
  have r1_q := h.s.r1
  have r2 := h.s.r2
  have r3 := h.s.r3
  have r4 := h.s.r4
  have r5_q := h.s.r5
  have r7 := h.s.r7
  have r12 := h.s.r12
  have r13 := h.s.r13
  have r15 := h.s.r15
  have r17 := h.s.r17
  have r18 := h.s.r18
  have r19 := h.s.r19
  have r20 := h.s.r20
  have r21 := h.s.r21
  have r22 := h.s.r22
  have hok := h.ok.1
  have hq0 : nQ G 0 = G 0 := rfl
  have hq1 : nQ G 1 = G 1 := rfl
  have ha0 : nA G 0 = G 2 := rfl
  have ha1 : nA G 1 = G 3 := rfl
  refine S_Mo_signOf ?_
  try simp only [r0, r1_q, r2, r3, r4, r5_q, r7, r12, r13, r15, r17, r18, r19, r20, r21, r22]
  refine ⟨h.s.o, _, c_Mo_isParity h (by omega) (by omega), ?_⟩
  rintro _ _ ⟨rfl, rfl⟩
  refine ⟨fun qc_1 => ?_, fun qc_1 => ?_⟩
  · try simp only [zb_eq0, zb_ne0] at qc_1
    refine ⟨h.s.o, _, c_Mo_isParity h (by omega) (by omega), ?_⟩
    rintro _ _ ⟨rfl, rfl⟩
    refine ⟨fun qc_2 => ?_, fun qc_2 => ?_⟩
    · try simp only [zb_eq0, zb_ne0] at qc_2
      refine ⟨?_, rfl⟩
      rw [gS, zite_f qc_1, zite_f qc_2]
    · try simp only [zb_eq0, zb_ne0] at qc_2
      refine ⟨?_, rfl⟩
      rw [gS, zite_f qc_1, zite_t (Classical.not_not.1 qc_2)]
  · try simp only [zb_eq0, zb_ne0] at qc_1
    refine ⟨?_, rfl⟩
    rw [gS, zite_t (Classical.not_not.1 qc_1)]
theorem c_Mo_isParityGame {d : Nat} {kd : ZK} {m : ZM} {G : GR} (h : MG kd m G) : CtI (d + 6) M_Mo_isParityGame [(2, 78)] kd m (qE m (zb (isPG G))) := by
  have r0 := h.s.r0
  have r1_q := h.s.r1
  have r2 := h.s.r2
  have r3 := h.s.r3
  have r4 := h.s.r4
  have r5_q := h.s.r5
  have r7 := h.s.r7
  have r12 := h.s.r12
  have r13 := h.s.r13
  have r15 := h.s.r15
  have r17 := h.s.r17
  have r18 := h.s.r18
  have r19 := h.s.r19
  have r20 := h.s.r20
  have r21 := h.s.r21
  have r22 := h.s.r22
  have hok := h.ok.1
  have hq0 : nQ G 0 = G 0 := rfl
  have hq1 : nQ G 1 = G 1 := rfl
  have ha0 : nA G 0 = G 2 := rfl
  have ha1 : nA G 1 = G 3 := rfl
  have qL0 := zfor1 (G 0) (fun (x : Int) (t : Int) => Ev (d + 6) M_Mo_isParityGame 0 0 26 [(2, 78), (0, t), (0, x), zJ] [] kd m (zqI kd (qE m (zb (isPG G))))) (fun (x : Int) (t : Int) => 0 ≤ x ∧ t = zb ((G 2 = 2 ∧ G 3 = 2) ∧ zal x (fun x => zal (G 1) fun y => 0 < gW G x y → gS G x y ≠ 0))) (by
    intro x t hb_q hI0 qKL0
    obtain ⟨hx0, ht⟩ := hI0
    have qL1 := zfor1 (G 1) (fun (y : Int) (t2_q : Int) => Ev (d + 6) M_Mo_isParityGame 0 0 37 [(2, 78), (0, t2_q), (0, x), (0, y)] [] kd m (zqI kd (qE m (zb (isPG G))))) (fun (y : Int) (t2_q : Int) => 0 ≤ y ∧ x < G 0 ∧ t2_q = zb (((G 2 = 2 ∧ G 3 = 2) ∧ zal x (fun x => zal (G 1) fun y => 0 < gW G x y → gS G x y ≠ 0)) ∧ zal y (fun y => 0 < gW G x y → gS G x y ≠ 0))) (by
      intro y t2_q hb_q hI1 qKL1
      obtain ⟨hy0, hxl, ht2⟩ := hI1
      have hw := h.ok.gW x y
      refine T_Mo_isParityGame_37 ?_
      try simp only [r0, r1_q, r2, r3, r4, r5_q, r7, r12, r13, r15, r17, r18, r19, r20, r21, r22]
      refine ⟨h.s.o, _, c_Mo_questions h (Or.inr rfl), ?_⟩
      rintro _ _ ⟨rfl, rfl⟩
      refine ⟨fun qc_1 => ?_, fun qc_1 => ?_⟩
      · skip
        rw [iw_s (x := x + 1) (by omega) (by omega)]
        exact qKL0 t2_q (by omega) ⟨by omega, by rw [ht2, show y = G 1 by omega]; exact zb_congr ⟨fun z => ⟨z.1.1, (zal_s hx0).2 ⟨z.1.2, z.2⟩⟩, fun z => ⟨⟨z.1, ((zal_s hx0).1 z.2).1⟩, ((zal_s hx0).1 z.2).2⟩⟩⟩
      · skip
        refine ⟨fun qc_2 => ?_, fun qc_2 => ?_⟩
        · skip
          rw [iw_s (x := y + 1) (by omega) (by omega)]
          first | exact qKL1 0 (by omega) ⟨by omega, by omega, (zbF (fun z => zb_eq0.1 (ht2.symm.trans qc_2) ⟨z.1, ((zal_s hy0).1 z.2).1⟩))⟩ | exact qKL1 1 (by omega) ⟨by omega, by omega, (zbT ⟨(zb_ne0.1 (fun e_ => qc_2 (ht2.trans e_))).1, (zal_s hy0).2 ⟨(zb_ne0.1 (fun e_ => qc_2 (ht2.trans e_))).2, fun e => absurd qc_3 (by omega)⟩⟩)⟩ | exact qKL1 0 (by omega) ⟨by omega, by omega, (zbF (fun z => ((zal_s hy0).1 z.2).2 (show 0 < gW G x y by omega) qc_4))⟩ | exact qKL1 1 (by omega) ⟨by omega, by omega, (zbT ⟨(zb_ne0.1 (fun e_ => qc_2 (ht2.trans e_))).1, (zal_s hy0).2 ⟨(zb_ne0.1 (fun e_ => qc_2 (ht2.trans e_))).2, fun _ => qc_4⟩⟩)⟩
        · skip
          refine ⟨h.s.o, _, c_Mo_weightOf h (by omega) (by omega), ?_⟩
          rintro _ _ ⟨rfl, rfl⟩
          refine ⟨fun qc_3 => ?_, fun qc_3 => ?_⟩
          · skip
            rw [iw_s (x := y + 1) (by omega) (by omega)]
            first | exact qKL1 0 (by omega) ⟨by omega, by omega, (zbF (fun z => zb_eq0.1 (ht2.symm.trans qc_2) ⟨z.1, ((zal_s hy0).1 z.2).1⟩))⟩ | exact qKL1 1 (by omega) ⟨by omega, by omega, (zbT ⟨(zb_ne0.1 (fun e_ => qc_2 (ht2.trans e_))).1, (zal_s hy0).2 ⟨(zb_ne0.1 (fun e_ => qc_2 (ht2.trans e_))).2, fun e => absurd qc_3 (by omega)⟩⟩)⟩ | exact qKL1 0 (by omega) ⟨by omega, by omega, (zbF (fun z => ((zal_s hy0).1 z.2).2 (show 0 < gW G x y by omega) qc_4))⟩ | exact qKL1 1 (by omega) ⟨by omega, by omega, (zbT ⟨(zb_ne0.1 (fun e_ => qc_2 (ht2.trans e_))).1, (zal_s hy0).2 ⟨(zb_ne0.1 (fun e_ => qc_2 (ht2.trans e_))).2, fun _ => qc_4⟩⟩)⟩
          · skip
            refine ⟨h.s.o, _, c_Mo_signOf h (by omega) (by omega), ?_⟩
            rintro _ _ ⟨rfl, rfl⟩
            refine ⟨fun qc_4 => ?_, fun qc_4 => ?_⟩
            · skip
              rw [iw_s (x := y + 1) (by omega) (by omega)]
              first | exact qKL1 0 (by omega) ⟨by omega, by omega, (zbF (fun z => zb_eq0.1 (ht2.symm.trans qc_2) ⟨z.1, ((zal_s hy0).1 z.2).1⟩))⟩ | exact qKL1 1 (by omega) ⟨by omega, by omega, (zbT ⟨(zb_ne0.1 (fun e_ => qc_2 (ht2.trans e_))).1, (zal_s hy0).2 ⟨(zb_ne0.1 (fun e_ => qc_2 (ht2.trans e_))).2, fun e => absurd qc_3 (by omega)⟩⟩)⟩ | exact qKL1 0 (by omega) ⟨by omega, by omega, (zbF (fun z => ((zal_s hy0).1 z.2).2 (show 0 < gW G x y by omega) qc_4))⟩ | exact qKL1 1 (by omega) ⟨by omega, by omega, (zbT ⟨(zb_ne0.1 (fun e_ => qc_2 (ht2.trans e_))).1, (zal_s hy0).2 ⟨(zb_ne0.1 (fun e_ => qc_2 (ht2.trans e_))).2, fun _ => qc_4⟩⟩)⟩
            · skip
              rw [iw_s (x := y + 1) (by omega) (by omega)]
              first | exact qKL1 0 (by omega) ⟨by omega, by omega, (zbF (fun z => zb_eq0.1 (ht2.symm.trans qc_2) ⟨z.1, ((zal_s hy0).1 z.2).1⟩))⟩ | exact qKL1 1 (by omega) ⟨by omega, by omega, (zbT ⟨(zb_ne0.1 (fun e_ => qc_2 (ht2.trans e_))).1, (zal_s hy0).2 ⟨(zb_ne0.1 (fun e_ => qc_2 (ht2.trans e_))).2, fun e => absurd qc_3 (by omega)⟩⟩)⟩ | exact qKL1 0 (by omega) ⟨by omega, by omega, (zbF (fun z => ((zal_s hy0).1 z.2).2 (show 0 < gW G x y by omega) qc_4))⟩ | exact qKL1 1 (by omega) ⟨by omega, by omega, (zbT ⟨(zb_ne0.1 (fun e_ => qc_2 (ht2.trans e_))).1, (zal_s hy0).2 ⟨(zb_ne0.1 (fun e_ => qc_2 (ht2.trans e_))).2, fun _ => qc_4⟩⟩)⟩)
    refine T_Mo_isParityGame_26 ?_
    try simp only [r0, r1_q, r2, r3, r4, r5_q, r7, r12, r13, r15, r17, r18, r19, r20, r21, r22]
    refine ⟨h.s.o, _, c_Mo_questions h (Or.inl rfl), ?_⟩
    rintro _ _ ⟨rfl, rfl⟩
    refine ⟨fun qc_1 => ?_, fun qc_1 => ?_⟩
    · skip
      rw [show x = G 0 by omega] at ht
      exact ⟨by rw [ht]; exact zb_01, by rw [ht]; rfl, rfl⟩
    · skip
      exact qL1 0 t (by omega) ⟨by decide, by omega, by rw [ht]; exact zb_congr ⟨fun z => ⟨z, zal_0 _⟩, fun z => z.1⟩⟩)
  refine S_Mo_isParityGame ?_
  try simp only [r0, r1_q, r2, r3, r4, r5_q, r7, r12, r13, r15, r17, r18, r19, r20, r21, r22]
  refine ⟨h.s.o, _, c_Mo_answers h (Or.inl rfl), ?_⟩
  rintro _ _ ⟨rfl, rfl⟩
  refine ⟨fun qc_1 => ?_, fun qc_1 => ?_⟩
  · skip
    first | exact qL0 0 0 (by omega) ⟨by decide, (zbF (fun z => by have := z.1; omega))⟩ | exact qL0 0 1 (by omega) ⟨by decide, (zbT ⟨by omega, zal_0 _⟩)⟩
  · skip
    refine ⟨h.s.o, _, c_Mo_answers h (Or.inr rfl), ?_⟩
    rintro _ _ ⟨rfl, rfl⟩
    refine ⟨fun qc_2 => ?_, fun qc_2 => ?_⟩
    · skip
      first | exact qL0 0 0 (by omega) ⟨by decide, (zbF (fun z => by have := z.1; omega))⟩ | exact qL0 0 1 (by omega) ⟨by decide, (zbT ⟨by omega, zal_0 _⟩)⟩
    · skip
      first | exact qL0 0 0 (by omega) ⟨by decide, (zbF (fun z => by have := z.1; omega))⟩ | exact qL0 0 1 (by omega) ⟨by decide, (zbT ⟨by omega, zal_0 _⟩)⟩
theorem c_Mo_givenAt {d : Nat} {kd : ZK} {m : ZM} {G : GR} {p q a o : Int} (h : MG kd m G) (hp : p = 0 ∨ p = 1) (hq : 0 ≤ q ∧ q < 5) (ha_q : 0 ≤ a ∧ a < 4) (ho : 0 ≤ o ∧ o < 5) : CtI (d + 4) M_Mo_givenAt [(2, 78), (0, p), (0, q), (0, a), (0, o)] kd m (qE m (sB G p q a o)) := by
  have r0 := h.s.r0
  have r1_q := h.s.r1
  have r2 := h.s.r2
  have r3 := h.s.r3
  have r4 := h.s.r4
  have r5_q := h.s.r5
  have r7 := h.s.r7
  have r12 := h.s.r12
  have r13 := h.s.r13
  have r15 := h.s.r15
  have r17 := h.s.r17
  have r18 := h.s.r18
  have r19 := h.s.r19
  have r20 := h.s.r20
  have r21 := h.s.r21
  have r22 := h.s.r22
  have hok := h.ok.1
  have hq0 : nQ G 0 = G 0 := rfl
  have hq1 : nQ G 1 = G 1 := rfl
  have ha0 : nA G 0 = G 2 := rfl
  have ha1 : nA G 1 = G 3 := rfl
  have hnb := h.ok.a (1 - p)
  have qL0 := zfor1 (nA G (1 - p)) (fun (b : Int) (t : Int) => Ev (d + 4) M_Mo_givenAt 0 0 6 [(2, 78), (0, p), (0, q), (0, a), (0, o), (0, t), (0, b)] [] kd m (zqI kd (qE m (sB G p q a o)))) (fun (b : Int) (t : Int) => 0 ≤ b ∧ t = zsum b.toNat (fun b => pB G p q o a b) ∧ 0 ≤ t ∧ t ≤ 12 * b) (by
    intro b t hb_q hI0 qKL0
    obtain ⟨hb0, ht, t0_q, t1_q⟩ := hI0
    have hv := h.ok.B p q o a b
    refine T_Mo_givenAt_6 ?_
    try simp only [r0, r1_q, r2, r3, r4, r5_q, r7, r12, r13, r15, r17, r18, r19, r20, r21, r22]
    rw [iw_s (x := 1 - p) (by omega) (by omega)]
    refine ⟨h.s.o, _, c_Mo_answers h (by omega), ?_⟩
    rintro _ _ ⟨rfl, rfl⟩
    refine ⟨fun qc_1 => ?_, fun qc_1 => ?_⟩
    · skip
      rw [show b = nA G (1 - p) by omega] at ht
      exact ⟨ht, rfl⟩
    · skip
      refine ⟨h.s.o, _, c_Mo_seenB h (by omega) (by omega) (by omega) (by omega), ?_⟩
      rintro _ _ ⟨rfl, rfl⟩
      rw [iw_s (x := b + 1) (by omega) (by omega)]
      rw [iw_s (by omega) (by omega)]
      exact qKL0 _ (by omega) ⟨by omega, by rw [zsum_1 hb0, ← ht], by omega, by omega⟩)
  refine S_Mo_givenAt ?_
  try simp only [r0, r1_q, r2, r3, r4, r5_q, r7, r12, r13, r15, r17, r18, r19, r20, r21, r22]
  exact qL0 0 0 (by omega) ⟨by decide, rfl, by decide, by decide⟩
theorem c_Mo_boxWorth {d : Nat} {kd : ZK} {m : ZM} {G : GR} (h : MG kd m G) : CtI (d + 4) M_Mo_boxWorth [(2, 78)] kd m (qE m (sBW G)) := by
  have r0 := h.s.r0
  have r1_q := h.s.r1
  have r2 := h.s.r2
  have r3 := h.s.r3
  have r4 := h.s.r4
  have r5_q := h.s.r5
  have r7 := h.s.r7
  have r12 := h.s.r12
  have r13 := h.s.r13
  have r15 := h.s.r15
  have r17 := h.s.r17
  have r18 := h.s.r18
  have r19 := h.s.r19
  have r20 := h.s.r20
  have r21 := h.s.r21
  have r22 := h.s.r22
  have hok := h.ok.1
  have hq0 : nQ G 0 = G 0 := rfl
  have hq1 : nQ G 1 = G 1 := rfl
  have ha0 : nA G 0 = G 2 := rfl
  have ha1 : nA G 1 = G 3 := rfl
  have qL0 := zfor1 (G 0) (fun (x : Int) (t0_q : Int) => Ev (d + 4) M_Mo_boxWorth 0 0 4 [(2, 78), (0, t0_q), (0, x), zJ, zJ, zJ] [] kd m (zqI kd (qE m (sBW G)))) (fun (x : Int) (t0_q : Int) => 0 ≤ x ∧ t0_q = 0 + zsum x.toNat (fun x => zsum (G 1).toNat (fun y => zsum (G 2).toNat (fun a => zsum (G 3).toNat (fun b => gW G x y * gV G x y a b * gB G x y a b)))) ∧ 0 ≤ t0_q ∧ t0_q ≤ 0 + 8640 * x) (by
    intro x t0_q hb_q hI0 qKL0
    obtain ⟨hx0, he0, hl0, hu0⟩ := hI0
    have qL1 := zfor1 (G 1) (fun (y : Int) (t1_q : Int) => Ev (d + 4) M_Mo_boxWorth 0 0 15 [(2, 78), (0, t1_q), (0, x), (0, y), zJ, zJ] [] kd m (zqI kd (qE m (sBW G)))) (fun (y : Int) (t1_q : Int) => 0 ≤ y ∧ (x < G 0) ∧ t1_q = t0_q + zsum y.toNat (fun y => zsum (G 2).toNat (fun a => zsum (G 3).toNat (fun b => gW G x y * gV G x y a b * gB G x y a b))) ∧ t0_q ≤ t1_q ∧ t1_q ≤ t0_q + 1728 * y) (by
      intro y t1_q hb_q hI1 qKL1
      obtain ⟨hy0, hr1, he1, hl1, hu1⟩ := hI1
      have qL2 := zfor1 (G 2) (fun (a : Int) (t2_q : Int) => Ev (d + 4) M_Mo_boxWorth 0 0 27 [(2, 78), (0, t2_q), (0, x), (0, y), (0, a), zJ] [] kd m (zqI kd (qE m (sBW G)))) (fun (a : Int) (t2_q : Int) => 0 ≤ a ∧ (x < G 0 ∧ y < G 1) ∧ t2_q = t1_q + zsum a.toNat (fun a => zsum (G 3).toNat (fun b => gW G x y * gV G x y a b * gB G x y a b)) ∧ t1_q ≤ t2_q ∧ t2_q ≤ t1_q + 432 * a) (by
        intro a t2_q hb_q hI2 qKL2
        obtain ⟨ha0, hr2, he2, hl2, hu2⟩ := hI2
        have qL3 := zfor1 (G 3) (fun (b : Int) (t3_q : Int) => Ev (d + 4) M_Mo_boxWorth 0 0 40 [(2, 78), (0, t3_q), (0, x), (0, y), (0, a), (0, b)] [] kd m (zqI kd (qE m (sBW G)))) (fun (b : Int) (t3_q : Int) => 0 ≤ b ∧ (x < G 0 ∧ y < G 1 ∧ a < G 2) ∧ t3_q = t2_q + zsum b.toNat (fun b => gW G x y * gV G x y a b * gB G x y a b) ∧ t2_q ≤ t3_q ∧ t3_q ≤ t2_q + 108 * b) (by
          intro b t3_q hb_q hI3 qKL3
          obtain ⟨hb0, hr3, he3, hl3, hu3⟩ := hI3
          have hw : 0 ≤ gW G x y * gV G x y a b * gB G x y a b ∧ gW G x y * gV G x y a b * gB G x y a b ≤ 108 := zmul_in (A := 9) (B := 12) (zmul_in (A := 9) (B := 1) (h.ok.gW x y) (h.ok.gV x y a b)) (h.ok.gB x y a b)
          refine T_Mo_boxWorth_40 ?_
          try simp only [r0, r1_q, r2, r3, r4, r5_q, r7, r12, r13, r15, r17, r18, r19, r20, r21, r22]
          refine ⟨h.s.o, _, c_Mo_answers h (Or.inr rfl), ?_⟩
          rintro _ _ ⟨rfl, rfl⟩
          refine ⟨fun qc_1 => ?_, fun qc_1 => ?_⟩
          · skip
            rw [iw_s (x := a + 1) (by omega) (by omega)]
            refine qKL2 t3_q (by omega) ⟨by omega, by omega, ?_, by omega, by omega⟩
            rw [zsum_1 ha0, he3, show b = G 3 by omega, he2]
            omega
          · skip
            refine ⟨h.s.o, _, c_Mo_isWin h (by omega) (by omega) (by omega) (by omega), ?_⟩
            rintro _ _ ⟨rfl, rfl⟩
            refine ⟨fun qc_2 => ?_, fun qc_2 => ?_⟩
            · skip
              rw [iw_s (x := b + 1) (by omega) (by omega)]
              first | (have hv : gW G x y * gV G x y a b * gB G x y a b = 0 := (by have q1_q := h.ok.gV x y a b; have q2_q := zb_eq0.1 qc_2; have q3_q : gV G x y a b = 0 := (by omega); rw [q3_q, Int.mul_zero, Int.zero_mul]); rw [iw_s (by omega) (by omega)]; exact qKL3 _ (by omega) ⟨by omega, by omega, by rw [zsum_1 hb0, he3, hv]; omega, by omega, by omega⟩) | (have hv : gV G x y a b = 1 := zb_ne0.1 qc_2; have he : gW G x y * gV G x y a b * gB G x y a b = gW G x y * gB G x y a b := (by rw [hv, Int.mul_one]); rw [he] at hw; rw [iw_s (x := gW G x y * gB G x y a b) (by omega) (by omega)]; rw [← he] at hw ⊢; rw [iw_s (by omega) (by omega)]; exact qKL3 _ (by omega) ⟨by omega, by omega, by rw [zsum_1 hb0, he3]; omega, by omega, by omega⟩)
            · skip
              refine ⟨h.s.o, _, c_Mo_weightOf h (by omega) (by omega), ?_⟩
              rintro _ _ ⟨rfl, rfl⟩
              refine ⟨h.s.o, _, c_Mo_boxOf h (by omega) (by omega) (by omega) (by omega), ?_⟩
              rintro _ _ ⟨rfl, rfl⟩
              rw [iw_s (x := b + 1) (by omega) (by omega)]
              first | (have hv : gW G x y * gV G x y a b * gB G x y a b = 0 := (by have q1_q := h.ok.gV x y a b; have q2_q := zb_eq0.1 qc_2; have q3_q : gV G x y a b = 0 := (by omega); rw [q3_q, Int.mul_zero, Int.zero_mul]); rw [iw_s (by omega) (by omega)]; exact qKL3 _ (by omega) ⟨by omega, by omega, by rw [zsum_1 hb0, he3, hv]; omega, by omega, by omega⟩) | (have hv : gV G x y a b = 1 := zb_ne0.1 qc_2; have he : gW G x y * gV G x y a b * gB G x y a b = gW G x y * gB G x y a b := (by rw [hv, Int.mul_one]); rw [he] at hw; rw [iw_s (x := gW G x y * gB G x y a b) (by omega) (by omega)]; rw [← he] at hw ⊢; rw [iw_s (by omega) (by omega)]; exact qKL3 _ (by omega) ⟨by omega, by omega, by rw [zsum_1 hb0, he3]; omega, by omega, by omega⟩))
        refine T_Mo_boxWorth_27 ?_
        try simp only [r0, r1_q, r2, r3, r4, r5_q, r7, r12, r13, r15, r17, r18, r19, r20, r21, r22]
        refine ⟨h.s.o, _, c_Mo_answers h (Or.inl rfl), ?_⟩
        rintro _ _ ⟨rfl, rfl⟩
        refine ⟨fun qc_1 => ?_, fun qc_1 => ?_⟩
        · skip
          rw [iw_s (x := y + 1) (by omega) (by omega)]
          refine qKL1 t2_q (by omega) ⟨by omega, by omega, ?_, by omega, by omega⟩
          rw [zsum_1 hy0, he2, show a = G 2 by omega, he1]
          omega
        · skip
          exact qL3 0 t2_q (by omega) ⟨by decide, by omega, by rw [zsum_0]; omega, by omega, by omega⟩)
      refine T_Mo_boxWorth_15 ?_
      try simp only [r0, r1_q, r2, r3, r4, r5_q, r7, r12, r13, r15, r17, r18, r19, r20, r21, r22]
      refine ⟨h.s.o, _, c_Mo_questions h (Or.inr rfl), ?_⟩
      rintro _ _ ⟨rfl, rfl⟩
      refine ⟨fun qc_1 => ?_, fun qc_1 => ?_⟩
      · skip
        rw [iw_s (x := x + 1) (by omega) (by omega)]
        refine qKL0 t1_q (by omega) ⟨by omega, ?_, by omega, by omega⟩
        rw [zsum_1 hx0, he1, show y = G 1 by omega, he0]
        omega
      · skip
        exact qL2 0 t1_q (by omega) ⟨by decide, by omega, by rw [zsum_0]; omega, by omega, by omega⟩)
    refine T_Mo_boxWorth_4 ?_
    try simp only [r0, r1_q, r2, r3, r4, r5_q, r7, r12, r13, r15, r17, r18, r19, r20, r21, r22]
    refine ⟨h.s.o, _, c_Mo_questions h (Or.inl rfl), ?_⟩
    rintro _ _ ⟨rfl, rfl⟩
    refine ⟨fun qc_1 => ?_, fun qc_1 => ?_⟩
    · skip
      rw [he0, show x = G 0 by omega, Int.zero_add]
      exact ⟨rfl, rfl⟩
    · skip
      exact qL1 0 t0_q (by omega) ⟨by decide, by omega, by rw [zsum_0]; omega, by omega, by omega⟩)
  refine S_Mo_boxWorth ?_
  try simp only [r0, r1_q, r2, r3, r4, r5_q, r7, r12, r13, r15, r17, r18, r19, r20, r21, r22]
  exact qL0 0 0 (by omega) ⟨by decide, rfl, by decide, by decide⟩
theorem c_Mo_isWhole {d : Nat} {kd : ZK} {m : ZM} {G : GR} (h : MG kd m G) : CtI (d + 5) M_Mo_isWhole [(2, 78)] kd m (qE m (zb (isWh G))) := by
  have r0 := h.s.r0
  have r1_q := h.s.r1
  have r2 := h.s.r2
  have r3 := h.s.r3
  have r4 := h.s.r4
  have r5_q := h.s.r5
  have r7 := h.s.r7
  have r12 := h.s.r12
  have r13 := h.s.r13
  have r15 := h.s.r15
  have r17 := h.s.r17
  have r18 := h.s.r18
  have r19 := h.s.r19
  have r20 := h.s.r20
  have r21 := h.s.r21
  have r22 := h.s.r22
  have hok := h.ok.1
  have hq0 : nQ G 0 = G 0 := rfl
  have hq1 : nQ G 1 = G 1 := rfl
  have ha0 : nA G 0 = G 2 := rfl
  have ha1 : nA G 1 = G 3 := rfl
  have qL0 := zfor1 (G 0) (fun (x : Int) (t : Int) => Ev (d + 5) M_Mo_isWhole 0 0 4 [(2, 78), (0, t), (0, x), zJ, zJ, zJ] [] kd m (zqI kd (qE m (zb (isWh G))))) (fun (x : Int) (t : Int) => 0 ≤ x ∧ t = zb (zal x (fun x => zal (G 1) fun y => (zsum (G 2).toNat fun a => sB G 0 x a y) = 12))) (by
    intro x t hb_q hI0 qKL0
    obtain ⟨hx0, ht⟩ := hI0
    have qL1 := zfor1 (G 1) (fun (y : Int) (t2_q : Int) => Ev (d + 5) M_Mo_isWhole 0 0 15 [(2, 78), (0, t2_q), (0, x), (0, y), zJ, zJ] [] kd m (zqI kd (qE m (zb (isWh G))))) (fun (y : Int) (t2_q : Int) => 0 ≤ y ∧ x < G 0 ∧ t2_q = zb (zal x (fun x => zal (G 1) fun y => (zsum (G 2).toNat fun a => sB G 0 x a y) = 12) ∧ zal y (fun y => (zsum (G 2).toNat fun a => sB G 0 x a y) = 12))) (by
      intro y t2_q hb_q hI1 qKL1
      obtain ⟨hy0, hxl, ht2⟩ := hI1
      have qL2 := zfor1 (G 2) (fun (a : Int) (s : Int) => Ev (d + 5) M_Mo_isWhole 0 0 30 [(2, 78), (0, t2_q), (0, x), (0, y), (0, s), (0, a)] [] kd m (zqI kd (qE m (zb (isWh G))))) (fun (a : Int) (s : Int) => 0 ≤ a ∧ y < G 1 ∧ s = zsum a.toNat (fun a => sB G 0 x a y) ∧ 0 ≤ s ∧ s ≤ 48 * a) (by
        intro a s hb_q hI2 qKL2
        obtain ⟨ha_, hyl, hs, hs0, hs1⟩ := hI2
        have hv := sB_in h.ok 0 x a y
        refine T_Mo_isWhole_30 ?_
        try simp only [r0, r1_q, r2, r3, r4, r5_q, r7, r12, r13, r15, r17, r18, r19, r20, r21, r22]
        refine ⟨h.s.o, _, c_Mo_answers h (Or.inl rfl), ?_⟩
        rintro _ _ ⟨rfl, rfl⟩
        refine ⟨fun qc_1 => ?_, fun qc_1 => ?_⟩
        · skip
          refine ⟨fun qc_2 => ?_, fun qc_2 => ?_⟩
          · skip
            have hs : a = G 2 → s = zsum (G 2).toNat (fun a => sB G 0 x a y) := fun e => by rw [hs, e]
            rw [iw_s (x := y + 1) (by omega) (by omega)]
            first | exact qKL1 0 (by omega) ⟨by omega, by omega, (zbF (fun z => zb_eq0.1 (ht2.symm.trans qc_2) ⟨z.1, ((zal_s hy0).1 z.2).1⟩))⟩ | exact qKL1 0 (by omega) ⟨by omega, by omega, (zbF (fun z => qc_3 (by rw [hs (by omega)]; exact ((zal_s hy0).1 z.2).2)))⟩ | exact qKL1 1 (by omega) ⟨by omega, by omega, (zbT ⟨(zb_ne0.1 (fun e_ => qc_2 (ht2.trans e_))).1, (zal_s hy0).2 ⟨(zb_ne0.1 (fun e_ => qc_2 (ht2.trans e_))).2, by rw [← hs (by omega)]; exact Classical.not_not.1 qc_3⟩⟩)⟩
          · skip
            refine ⟨fun qc_3 => ?_, fun qc_3 => ?_⟩
            · skip
              have hs : a = G 2 → s = zsum (G 2).toNat (fun a => sB G 0 x a y) := fun e => by rw [hs, e]
              rw [iw_s (x := y + 1) (by omega) (by omega)]
              first | exact qKL1 0 (by omega) ⟨by omega, by omega, (zbF (fun z => zb_eq0.1 (ht2.symm.trans qc_2) ⟨z.1, ((zal_s hy0).1 z.2).1⟩))⟩ | exact qKL1 0 (by omega) ⟨by omega, by omega, (zbF (fun z => qc_3 (by rw [hs (by omega)]; exact ((zal_s hy0).1 z.2).2)))⟩ | exact qKL1 1 (by omega) ⟨by omega, by omega, (zbT ⟨(zb_ne0.1 (fun e_ => qc_2 (ht2.trans e_))).1, (zal_s hy0).2 ⟨(zb_ne0.1 (fun e_ => qc_2 (ht2.trans e_))).2, by rw [← hs (by omega)]; exact Classical.not_not.1 qc_3⟩⟩)⟩
            · skip
              have hs : a = G 2 → s = zsum (G 2).toNat (fun a => sB G 0 x a y) := fun e => by rw [hs, e]
              rw [iw_s (x := y + 1) (by omega) (by omega)]
              first | exact qKL1 0 (by omega) ⟨by omega, by omega, (zbF (fun z => zb_eq0.1 (ht2.symm.trans qc_2) ⟨z.1, ((zal_s hy0).1 z.2).1⟩))⟩ | exact qKL1 0 (by omega) ⟨by omega, by omega, (zbF (fun z => qc_3 (by rw [hs (by omega)]; exact ((zal_s hy0).1 z.2).2)))⟩ | exact qKL1 1 (by omega) ⟨by omega, by omega, (zbT ⟨(zb_ne0.1 (fun e_ => qc_2 (ht2.trans e_))).1, (zal_s hy0).2 ⟨(zb_ne0.1 (fun e_ => qc_2 (ht2.trans e_))).2, by rw [← hs (by omega)]; exact Classical.not_not.1 qc_3⟩⟩)⟩
        · skip
          refine ⟨h.s.o, _, c_Mo_givenAt h (by omega) (by omega) (by omega) (by omega), ?_⟩
          rintro _ _ ⟨rfl, rfl⟩
          rw [iw_s (x := a + 1) (by omega) (by omega)]
          rw [iw_s (by omega) (by omega)]
          exact qKL2 _ (by omega) ⟨by omega, by omega, by rw [zsum_1 ha_, ← hs], by omega, by omega⟩)
      refine T_Mo_isWhole_15 ?_
      try simp only [r0, r1_q, r2, r3, r4, r5_q, r7, r12, r13, r15, r17, r18, r19, r20, r21, r22]
      refine ⟨h.s.o, _, c_Mo_questions h (Or.inr rfl), ?_⟩
      rintro _ _ ⟨rfl, rfl⟩
      refine ⟨fun qc_1 => ?_, fun qc_1 => ?_⟩
      · skip
        rw [iw_s (x := x + 1) (by omega) (by omega)]
        exact qKL0 t2_q (by omega) ⟨by omega, by rw [ht2, show y = G 1 by omega]; exact zb_congr (zal_s hx0).symm⟩
      · skip
        exact qL2 0 0 (by omega) ⟨by decide, by omega, rfl, by decide, by decide⟩)
    refine T_Mo_isWhole_4 ?_
    try simp only [r0, r1_q, r2, r3, r4, r5_q, r7, r12, r13, r15, r17, r18, r19, r20, r21, r22]
    refine ⟨h.s.o, _, c_Mo_questions h (Or.inl rfl), ?_⟩
    rintro _ _ ⟨rfl, rfl⟩
    refine ⟨fun qc_1 => ?_, fun qc_1 => ?_⟩
    · skip
      rw [show x = G 0 by omega] at ht
      exact ⟨by rw [ht]; exact zb_01, by rw [ht]; rfl, rfl⟩
    · skip
      exact qL1 0 t (by omega) ⟨by decide, by omega, by rw [ht]; exact zb_congr ⟨fun z => ⟨z, zal_0 _⟩, fun z => z.1⟩⟩)
  refine S_Mo_isWhole ?_
  try simp only [r0, r1_q, r2, r3, r4, r5_q, r7, r12, r13, r15, r17, r18, r19, r20, r21, r22]
  exact qL0 0 1 (by omega) ⟨by decide, (zbT (zal_0 _))⟩
theorem c_Mo_signals {d : Nat} {kd : ZK} {m : ZM} {G : GR} {p : Int} (h : MG kd m G) (hp : p = 0 ∨ p = 1) (h1 : 1 ≤ nQ G (1 - p)) : CtI (d + 5) M_Mo_signals [(2, 78), (0, p)] kd m (qE m (zb (¬ noSig G p))) := by
  have r0 := h.s.r0
  have r1_q := h.s.r1
  have r2 := h.s.r2
  have r3 := h.s.r3
  have r4 := h.s.r4
  have r5_q := h.s.r5
  have r7 := h.s.r7
  have r12 := h.s.r12
  have r13 := h.s.r13
  have r15 := h.s.r15
  have r17 := h.s.r17
  have r18 := h.s.r18
  have r19 := h.s.r19
  have r20 := h.s.r20
  have r21 := h.s.r21
  have r22 := h.s.r22
  have hok := h.ok.1
  have hq0 : nQ G 0 = G 0 := rfl
  have hq1 : nQ G 1 = G 1 := rfl
  have ha0 : nA G 0 = G 2 := rfl
  have ha1 : nA G 1 = G 3 := rfl
  have n1_q := h.ok.q p
  have n2_q := h.ok.q (1 - p)
  have n3_q := h.ok.a p
  have qL0 := zfor0 (nQ G p) (fun (q : Int)  => Ev (d + 5) M_Mo_signals 0 0 2 [(2, 78), (0, p), (0, q), zJ, zJ] [] kd m (zqI kd (qE m (zb (¬ noSig G p))))) (fun (q : Int)  => 0 ≤ q ∧ zal q (fun q => zal (nA G p) fun a => zal (nQ G (1 - p)) fun o => sB G p q a o = sB G p q a 0)) (by
    intro q  hb_q hI0 qKL0
    obtain ⟨hq_, hz⟩ := hI0
    have qL1 := zfor0 (nA G p) (fun (a : Int)  => Ev (d + 5) M_Mo_signals 0 0 13 [(2, 78), (0, p), (0, q), (0, a), zJ] [] kd m (zqI kd (qE m (zb (¬ noSig G p))))) (fun (a : Int)  => 0 ≤ a ∧ q < nQ G p ∧ zal a (fun a => zal (nQ G (1 - p)) fun o => sB G p q a o = sB G p q a 0)) (by
      intro a  hb_q hI1 qKL1
      obtain ⟨ha_, hql, hz1⟩ := hI1
      have qL2 := zfor0 (nQ G (1 - p)) (fun (o : Int)  => Ev (d + 5) M_Mo_signals 0 0 25 [(2, 78), (0, p), (0, q), (0, a), (0, o)] [] kd m (zqI kd (qE m (zb (¬ noSig G p))))) (fun (o : Int)  => 1 ≤ o ∧ a < nA G p ∧ zal o (fun o => sB G p q a o = sB G p q a 0)) (by
        intro o  hb_q hI2 qKL2
        obtain ⟨ho_, hal, hz2⟩ := hI2
        refine T_Mo_signals_25 ?_
        try simp only [r0, r1_q, r2, r3, r4, r5_q, r7, r12, r13, r15, r17, r18, r19, r20, r21, r22]
        rw [iw_s (x := 1 - p) (by omega) (by omega)]
        refine ⟨h.s.o, _, c_Mo_questions h (by omega), ?_⟩
        rintro _ _ ⟨rfl, rfl⟩
        refine ⟨fun qc_1 => ?_, fun qc_1 => ?_⟩
        · skip
          rw [iw_s (x := a + 1) (by omega) (by omega)]
          rw [show o = nQ G (1 - p) by omega] at hz2
          exact qKL1 (by omega) ⟨by omega, by omega, (zal_s ha_).2 ⟨hz1, hz2⟩⟩
        · skip
          refine ⟨h.s.o, _, c_Mo_givenAt h (by omega) (by omega) (by omega) (by omega), ?_⟩
          rintro _ _ ⟨rfl, rfl⟩
          refine ⟨h.s.o, _, c_Mo_givenAt h (by omega) (by omega) (by omega) (by omega), ?_⟩
          rintro _ _ ⟨rfl, rfl⟩
          refine ⟨fun qc_2 => ?_, fun qc_2 => ?_⟩
          · skip
            rw [iw_s (x := o + 1) (by omega) (by omega)]
            exact qKL2 (by omega) ⟨by omega, by omega, (zal_s (by omega)).2 ⟨hz2, qc_2⟩⟩
          · skip
            exact ⟨(zbT (fun z => qc_2 (z q hq_ hql a ha_ hal o (by omega) (by omega)))), rfl⟩)
      refine T_Mo_signals_13 ?_
      try simp only [r0, r1_q, r2, r3, r4, r5_q, r7, r12, r13, r15, r17, r18, r19, r20, r21, r22]
      refine ⟨h.s.o, _, c_Mo_answers h (by omega), ?_⟩
      rintro _ _ ⟨rfl, rfl⟩
      refine ⟨fun qc_1 => ?_, fun qc_1 => ?_⟩
      · skip
        rw [iw_s (x := q + 1) (by omega) (by omega)]
        rw [show a = nA G p by omega] at hz1
        exact qKL0 (by omega) ⟨by omega, (zal_s hq_).2 ⟨hz, hz1⟩⟩
      · skip
        exact qL2 1 (by omega) ⟨by decide, by omega, fun i i0_q i1_q => by rw [show i = 0 by omega]⟩)
    refine T_Mo_signals_2 ?_
    try simp only [r0, r1_q, r2, r3, r4, r5_q, r7, r12, r13, r15, r17, r18, r19, r20, r21, r22]
    refine ⟨h.s.o, _, c_Mo_questions h (by omega), ?_⟩
    rintro _ _ ⟨rfl, rfl⟩
    refine ⟨fun qc_1 => ?_, fun qc_1 => ?_⟩
    · skip
      rw [show q = nQ G p by omega] at hz
      exact ⟨(zbF (fun z => z hz)), rfl⟩
    · skip
      exact qL1 0 (by omega) ⟨by decide, by omega, zal_0 _⟩)
  refine S_Mo_signals ?_
  try simp only [r0, r1_q, r2, r3, r4, r5_q, r7, r12, r13, r15, r17, r18, r19, r20, r21, r22]
  exact qL0 0 (by omega) ⟨by decide, zal_0 _⟩
theorem zb_eqv {u v : Int} (hu : 0 ≤ u ∧ u ≤ 1) (hv : 0 ≤ v ∧ v ≤ 1) : zb (u = 1) = zb (v = 1) ↔ u = v := by
  rcases (show u = 0 ∨ u = 1 by omega) with a | a <;> rcases (show v = 0 ∨ v = 1 by omega) with b | b <;> subst a <;> subst b
  · simp
  · rw [zb_f (by decide), zb_t rfl]
  · rw [zb_t rfl, zb_f (by decide)]
  · simp
theorem c_Mo_isAlike {d : Nat} {kd : ZK} {m : ZM} {G : GR} {x y u v : Int} (h : MG kd m G) (hx : 0 ≤ x ∧ x < 5) (hy : 0 ≤ y ∧ y < 5) (hu : 0 ≤ u ∧ u < 5) (hv : 0 ≤ v ∧ v < 5) : CtI (d + 4) M_Mo_isAlike [(2, 78), (0, x), (0, y), (0, u), (0, v)] kd m (qE m (zb ((gW G x y = gW G u v) ∧ zal (G 2) (fun a => zal (G 3) fun b => gV G x y a b = gV G u v a b)))) := by
  have r0 := h.s.r0
  have r1_q := h.s.r1
  have r2 := h.s.r2
  have r3 := h.s.r3
  have r4 := h.s.r4
  have r5_q := h.s.r5
  have r7 := h.s.r7
  have r12 := h.s.r12
  have r13 := h.s.r13
  have r15 := h.s.r15
  have r17 := h.s.r17
  have r18 := h.s.r18
  have r19 := h.s.r19
  have r20 := h.s.r20
  have r21 := h.s.r21
  have r22 := h.s.r22
  have hok := h.ok.1
  have hq0 : nQ G 0 = G 0 := rfl
  have hq1 : nQ G 1 = G 1 := rfl
  have ha0 : nA G 0 = G 2 := rfl
  have ha1 : nA G 1 = G 3 := rfl
  have qL0 := zfor1 (G 2) (fun (a : Int) (t : Int) => Ev (d + 4) M_Mo_isAlike 0 0 26 [(2, 78), (0, x), (0, y), (0, u), (0, v), (0, t), (0, a), zJ] [] kd m (zqI kd (qE m (zb ((gW G x y = gW G u v) ∧ zal (G 2) (fun a => zal (G 3) fun b => gV G x y a b = gV G u v a b)))))) (fun (a : Int) (t : Int) => 0 ≤ a ∧ t = zb ((gW G x y = gW G u v) ∧ zal a (fun a => zal (G 3) fun b => gV G x y a b = gV G u v a b))) (by
    intro a t hb_q hI0 qKL0
    obtain ⟨ha_, ht⟩ := hI0
    have qL1 := zfor1 (G 3) (fun (b : Int) (t2_q : Int) => Ev (d + 4) M_Mo_isAlike 0 0 39 [(2, 78), (0, x), (0, y), (0, u), (0, v), (0, t2_q), (0, a), (0, b)] [] kd m (zqI kd (qE m (zb ((gW G x y = gW G u v) ∧ zal (G 2) (fun a => zal (G 3) fun b => gV G x y a b = gV G u v a b)))))) (fun (b : Int) (t2_q : Int) => 0 ≤ b ∧ a < G 2 ∧ t2_q = zb (((gW G x y = gW G u v) ∧ zal a (fun a => zal (G 3) fun b => gV G x y a b = gV G u v a b)) ∧ zal b (fun b => gV G x y a b = gV G u v a b))) (by
      intro b t2_q hb_q hI1 qKL1
      obtain ⟨hb0, hal, ht2⟩ := hI1
      have v1_q := h.ok.gV x y a b
      have v2 := h.ok.gV u v a b
      have he : zb (gV G x y a b = 1) = zb (gV G u v a b = 1) ↔ gV G x y a b = gV G u v a b := zb_eqv v1_q v2
      refine T_Mo_isAlike_39 ?_
      try simp only [r0, r1_q, r2, r3, r4, r5_q, r7, r12, r13, r15, r17, r18, r19, r20, r21, r22]
      refine ⟨h.s.o, _, c_Mo_answers h (Or.inr rfl), ?_⟩
      rintro _ _ ⟨rfl, rfl⟩
      refine ⟨fun qc_1 => ?_, fun qc_1 => ?_⟩
      · skip
        rw [iw_s (x := a + 1) (by omega) (by omega)]
        exact qKL0 t2_q (by omega) ⟨by omega, by rw [ht2, show b = G 3 by omega]; exact zb_congr ⟨fun z => ⟨z.1.1, (zal_s ha_).2 ⟨z.1.2, z.2⟩⟩, fun z => ⟨⟨z.1, ((zal_s ha_).1 z.2).1⟩, ((zal_s ha_).1 z.2).2⟩⟩⟩
      · skip
        refine ⟨fun qc_2 => ?_, fun qc_2 => ?_⟩
        · skip
          rw [iw_s (x := b + 1) (by omega) (by omega)]
          first | exact qKL1 0 (by omega) ⟨by omega, by omega, (zbF (fun z => zb_eq0.1 (ht2.symm.trans qc_2) ⟨z.1, ((zal_s hb0).1 z.2).1⟩))⟩ | exact qKL1 0 (by omega) ⟨by omega, by omega, (zbF (fun z => qc_3 (he.2 ((zal_s hb0).1 z.2).2)))⟩ | exact qKL1 1 (by omega) ⟨by omega, by omega, (zbT ⟨(zb_ne0.1 (fun e_ => qc_2 (ht2.trans e_))).1, (zal_s hb0).2 ⟨(zb_ne0.1 (fun e_ => qc_2 (ht2.trans e_))).2, he.1 (Classical.not_not.1 qc_3)⟩⟩)⟩
        · skip
          refine ⟨h.s.o, _, c_Mo_isWin h (by omega) (by omega) (by omega) (by omega), ?_⟩
          rintro _ _ ⟨rfl, rfl⟩
          refine ⟨h.s.o, _, c_Mo_isWin h (by omega) (by omega) (by omega) (by omega), ?_⟩
          rintro _ _ ⟨rfl, rfl⟩
          refine ⟨fun qc_3 => ?_, fun qc_3 => ?_⟩
          · skip
            rw [iw_s (x := b + 1) (by omega) (by omega)]
            first | exact qKL1 0 (by omega) ⟨by omega, by omega, (zbF (fun z => zb_eq0.1 (ht2.symm.trans qc_2) ⟨z.1, ((zal_s hb0).1 z.2).1⟩))⟩ | exact qKL1 0 (by omega) ⟨by omega, by omega, (zbF (fun z => qc_3 (he.2 ((zal_s hb0).1 z.2).2)))⟩ | exact qKL1 1 (by omega) ⟨by omega, by omega, (zbT ⟨(zb_ne0.1 (fun e_ => qc_2 (ht2.trans e_))).1, (zal_s hb0).2 ⟨(zb_ne0.1 (fun e_ => qc_2 (ht2.trans e_))).2, he.1 (Classical.not_not.1 qc_3)⟩⟩)⟩
          · skip
            rw [iw_s (x := b + 1) (by omega) (by omega)]
            first | exact qKL1 0 (by omega) ⟨by omega, by omega, (zbF (fun z => zb_eq0.1 (ht2.symm.trans qc_2) ⟨z.1, ((zal_s hb0).1 z.2).1⟩))⟩ | exact qKL1 0 (by omega) ⟨by omega, by omega, (zbF (fun z => qc_3 (he.2 ((zal_s hb0).1 z.2).2)))⟩ | exact qKL1 1 (by omega) ⟨by omega, by omega, (zbT ⟨(zb_ne0.1 (fun e_ => qc_2 (ht2.trans e_))).1, (zal_s hb0).2 ⟨(zb_ne0.1 (fun e_ => qc_2 (ht2.trans e_))).2, he.1 (Classical.not_not.1 qc_3)⟩⟩)⟩)
    refine T_Mo_isAlike_26 ?_
    try simp only [r0, r1_q, r2, r3, r4, r5_q, r7, r12, r13, r15, r17, r18, r19, r20, r21, r22]
    refine ⟨h.s.o, _, c_Mo_answers h (Or.inl rfl), ?_⟩
    rintro _ _ ⟨rfl, rfl⟩
    refine ⟨fun qc_1 => ?_, fun qc_1 => ?_⟩
    · skip
      rw [show a = G 2 by omega] at ht
      exact ⟨by rw [ht]; exact zb_01, ht, rfl⟩
    · skip
      exact qL1 0 t (by omega) ⟨by decide, by omega, by rw [ht]; exact zb_congr ⟨fun z => ⟨z, zal_0 _⟩, fun z => z.1⟩⟩)
  refine S_Mo_isAlike ?_
  try simp only [r0, r1_q, r2, r3, r4, r5_q, r7, r12, r13, r15, r17, r18, r19, r20, r21, r22]
  refine ⟨h.s.o, _, c_Mo_weightOf h (by omega) (by omega), ?_⟩
  rintro _ _ ⟨rfl, rfl⟩
  refine ⟨h.s.o, _, c_Mo_weightOf h (by omega) (by omega), ?_⟩
  rintro _ _ ⟨rfl, rfl⟩
  refine ⟨fun qc_1 => ?_, fun qc_1 => ?_⟩
  · skip
    first | exact qL0 0 0 (by omega) ⟨by decide, (zbF (fun z => qc_1 z.1))⟩ | exact qL0 0 1 (by omega) ⟨by decide, (zbT ⟨Classical.not_not.1 qc_1, zal_0 _⟩)⟩
  · skip
    first | exact qL0 0 0 (by omega) ⟨by decide, (zbF (fun z => qc_1 z.1))⟩ | exact qL0 0 1 (by omega) ⟨by decide, (zbT ⟨Classical.not_not.1 qc_1, zal_0 _⟩)⟩
theorem c_Mo_lesser {d : Nat} {kd : ZK} {m : ZM} {G : GR} {p q a o : Int} (h : MG kd m G) : CtI (d + 4) M_Mo_lesser [(2, 78), (0, p), (0, q), (0, a), (0, o)] kd m (qE m (aLesser G p q a o)) := by
  have r0 := h.s.r0
  have r1_q := h.s.r1
  have r2 := h.s.r2
  have r3 := h.s.r3
  have r4 := h.s.r4
  have r5_q := h.s.r5
  have r7 := h.s.r7
  have r12 := h.s.r12
  have r13 := h.s.r13
  have r15 := h.s.r15
  have r17 := h.s.r17
  have r18 := h.s.r18
  have r19 := h.s.r19
  have r20 := h.s.r20
  have r21 := h.s.r21
  have r22 := h.s.r22
  have hok := h.ok.1
  have hq0 : nQ G 0 = G 0 := rfl
  have hq1 : nQ G 1 = G 1 := rfl
  have ha0 : nA G 0 = G 2 := rfl
  have ha1 : nA G 1 = G 3 := rfl
  have key : (isQ G p q ∧ isA G p a ∧ isA G p o ∧ a ≠ o) → Ev (d + 4) M_Mo_lesser 0 0 46 [(2, 78), (0, p), (0, q), (0, a), (0, o), (0, 0), zJ] [] kd m (zqI kd (qE m (aLesser G p q a o))) := by
    intro hc_q
    have hp := hc_q.1.1
    have n1_q := h.ok.q p
    have n2_q := h.ok.q (1 - p)
    have n3_q := h.ok.a p
    have n4_q := h.ok.a (1 - p)
    have qL0 := zfor0 (nQ G (1 - p)) (fun (k : Int)  => Ev (d + 4) M_Mo_lesser 0 0 46 [(2, 78), (0, p), (0, q), (0, a), (0, o), (0, k), zJ] [] kd m (zqI kd (qE m (aLesser G p q a o)))) (fun (k : Int)  => 0 ≤ k ∧ zal k (fun o_ => zal (nA G (1 - p)) fun b => pW G p q o_ * pV G p q o_ a b ≤ pW G p q o_ * pV G p q o_ o b)) (by
      intro k  hb_q hI0 qKL0
      obtain ⟨hk0, hz⟩ := hI0
      have qL1 := zfor0 (nA G (1 - p)) (fun (b : Int)  => Ev (d + 4) M_Mo_lesser 0 0 61 [(2, 78), (0, p), (0, q), (0, a), (0, o), (0, k), (0, b)] [] kd m (zqI kd (qE m (aLesser G p q a o)))) (fun (b : Int)  => 0 ≤ b ∧ k < nQ G (1 - p) ∧ zal b (fun b => pW G p q k * pV G p q k a b ≤ pW G p q k * pV G p q k o b)) (by
        intro b  hb_q hI1 qKL1
        obtain ⟨hb0, hkl, hz1⟩ := hI1
        have hw := h.ok.W p q k
        have v1_q := h.ok.V p q k a b
        have v2 := h.ok.V p q k o b
        refine T_Mo_lesser_61 ?_
        try simp only [r0, r1_q, r2, r3, r4, r5_q, r7, r12, r13, r15, r17, r18, r19, r20, r21, r22]
        rw [iw_s (x := 1 - p) (by omega) (by omega)]
        refine ⟨h.s.o, _, c_Mo_answers h (by omega), ?_⟩
        rintro _ _ ⟨rfl, rfl⟩
        refine ⟨fun qc_1 => ?_, fun qc_1 => ?_⟩
        · skip
          rw [iw_s (x := k + 1) (by omega) (by omega)]
          first | (rw [show b = nA G (1 - p) by omega] at hz1; exact qKL0 (by omega) ⟨by omega, (zal_s hk0).2 ⟨hz, hz1⟩⟩) | exact qKL0 (by omega) ⟨by omega, (zal_s hk0).2 ⟨hz, fun i i0_q i1_q => by show pW G p q k * _ ≤ pW G p q k * _; rw [show pW G p q k = 0 by omega, Int.zero_mul, Int.zero_mul]; exact Int.le_refl _⟩⟩
        · skip
          refine ⟨h.s.o, _, c_Mo_weightSeen h (by omega) (by omega), ?_⟩
          rintro _ _ ⟨rfl, rfl⟩
          refine ⟨fun qc_2 => ?_, fun qc_2 => ?_⟩
          · skip
            rw [iw_s (x := k + 1) (by omega) (by omega)]
            first | (rw [show b = nA G (1 - p) by omega] at hz1; exact qKL0 (by omega) ⟨by omega, (zal_s hk0).2 ⟨hz, hz1⟩⟩) | exact qKL0 (by omega) ⟨by omega, (zal_s hk0).2 ⟨hz, fun i i0_q i1_q => by show pW G p q k * _ ≤ pW G p q k * _; rw [show pW G p q k = 0 by omega, Int.zero_mul, Int.zero_mul]; exact Int.le_refl _⟩⟩
          · skip
            refine ⟨h.s.o, _, c_Mo_seenV h (by omega) (by omega) (by omega) (by omega), ?_⟩
            rintro _ _ ⟨rfl, rfl⟩
            refine ⟨h.s.o, _, c_Mo_seenV h (by omega) (by omega) (by omega) (by omega), ?_⟩
            rintro _ _ ⟨rfl, rfl⟩
            refine ⟨fun qc_3 => ?_, fun qc_3 => ?_⟩
            · skip
              rw [iw_s (x := b + 1) (by omega) (by omega)]
              exact qKL1 (by omega) ⟨by omega, by omega, (zal_s hb0).2 ⟨hz1, Int.mul_le_mul_of_nonneg_left qc_3 hw.1⟩⟩
            · skip
              have hn : ¬ isLs G p q a o := fun z => by
                have this : pW G p q k * pV G p q k a b ≤ pW G p q k * pV G p q k o b := z k hk0 hkl b hb0 (by omega)
                rw [show pV G p q k a b = 1 by omega, show pV G p q k o b = 0 by omega] at this
                omega
              exact ⟨by rw [aLesser, zite_t hc_q, zite_f hn], rfl⟩)
      refine T_Mo_lesser_46 ?_
      try simp only [r0, r1_q, r2, r3, r4, r5_q, r7, r12, r13, r15, r17, r18, r19, r20, r21, r22]
      rw [iw_s (x := 1 - p) (by omega) (by omega)]
      refine ⟨h.s.o, _, c_Mo_questions h (by omega), ?_⟩
      rintro _ _ ⟨rfl, rfl⟩
      refine ⟨fun qc_1 => ?_, fun qc_1 => ?_⟩
      · skip
        rw [show k = nQ G (1 - p) by omega] at hz
        exact ⟨by rw [aLesser, zite_t hc_q, zite_t (show isLs G p q a o from hz)], rfl⟩
      · skip
        exact qL1 0 (by omega) ⟨by decide, by omega, zal_0 _⟩)
    exact qL0 0 (by omega) ⟨by decide, zal_0 _⟩
  refine S_Mo_lesser ?_
  try simp only [r0, r1_q, r2, r3, r4, r5_q, r7, r12, r13, r15, r17, r18, r19, r20, r21, r22]
  refine ⟨_, c_Mo_isPlayer, ?_⟩
  rintro _ _ ⟨rfl, rfl⟩
  refine ⟨fun qc_1 => ?_, fun qc_1 => ?_⟩
  · skip
    first | (exact ⟨by rw [aLesser, zite_f (fun z => zb_eq0.1 qc_1 z.1.1)], rfl⟩) | (exact ⟨by rw [aLesser, zite_f (fun z => zb_eq0.1 qc_2 z.1)], rfl⟩) | (exact ⟨by rw [aLesser, zite_f (fun z => zb_eq0.1 qc_3 z.2.1)], rfl⟩) | (exact ⟨by rw [aLesser, zite_f (fun z => zb_eq0.1 qc_4 z.2.2.1)], rfl⟩) | (exact ⟨by rw [aLesser, zite_f (fun z => qc_5 z.2.2.2)], rfl⟩)
  · skip
    refine ⟨h.s.o, _, c_Mo_isQuestion h (zb_ne0.1 qc_1), ?_⟩
    rintro _ _ ⟨rfl, rfl⟩
    refine ⟨fun qc_2 => ?_, fun qc_2 => ?_⟩
    · skip
      first | (exact ⟨by rw [aLesser, zite_f (fun z => zb_eq0.1 qc_1 z.1.1)], rfl⟩) | (exact ⟨by rw [aLesser, zite_f (fun z => zb_eq0.1 qc_2 z.1)], rfl⟩) | (exact ⟨by rw [aLesser, zite_f (fun z => zb_eq0.1 qc_3 z.2.1)], rfl⟩) | (exact ⟨by rw [aLesser, zite_f (fun z => zb_eq0.1 qc_4 z.2.2.1)], rfl⟩) | (exact ⟨by rw [aLesser, zite_f (fun z => qc_5 z.2.2.2)], rfl⟩)
    · skip
      refine ⟨h.s.o, _, c_Mo_isAnswer h (zb_ne0.1 qc_1), ?_⟩
      rintro _ _ ⟨rfl, rfl⟩
      refine ⟨fun qc_3 => ?_, fun qc_3 => ?_⟩
      · skip
        first | (exact ⟨by rw [aLesser, zite_f (fun z => zb_eq0.1 qc_1 z.1.1)], rfl⟩) | (exact ⟨by rw [aLesser, zite_f (fun z => zb_eq0.1 qc_2 z.1)], rfl⟩) | (exact ⟨by rw [aLesser, zite_f (fun z => zb_eq0.1 qc_3 z.2.1)], rfl⟩) | (exact ⟨by rw [aLesser, zite_f (fun z => zb_eq0.1 qc_4 z.2.2.1)], rfl⟩) | (exact ⟨by rw [aLesser, zite_f (fun z => qc_5 z.2.2.2)], rfl⟩)
      · skip
        refine ⟨h.s.o, _, c_Mo_isAnswer h (zb_ne0.1 qc_1), ?_⟩
        rintro _ _ ⟨rfl, rfl⟩
        refine ⟨fun qc_4 => ?_, fun qc_4 => ?_⟩
        · skip
          first | (exact ⟨by rw [aLesser, zite_f (fun z => zb_eq0.1 qc_1 z.1.1)], rfl⟩) | (exact ⟨by rw [aLesser, zite_f (fun z => zb_eq0.1 qc_2 z.1)], rfl⟩) | (exact ⟨by rw [aLesser, zite_f (fun z => zb_eq0.1 qc_3 z.2.1)], rfl⟩) | (exact ⟨by rw [aLesser, zite_f (fun z => zb_eq0.1 qc_4 z.2.2.1)], rfl⟩) | (exact ⟨by rw [aLesser, zite_f (fun z => qc_5 z.2.2.2)], rfl⟩)
        · skip
          refine ⟨fun qc_5 => ?_, fun qc_5 => ?_⟩
          · skip
            exact key ⟨zb_ne0.1 qc_2, zb_ne0.1 qc_3, zb_ne0.1 qc_4, qc_5⟩
          · skip
            first | (exact ⟨by rw [aLesser, zite_f (fun z => zb_eq0.1 qc_1 z.1.1)], rfl⟩) | (exact ⟨by rw [aLesser, zite_f (fun z => zb_eq0.1 qc_2 z.1)], rfl⟩) | (exact ⟨by rw [aLesser, zite_f (fun z => zb_eq0.1 qc_3 z.2.1)], rfl⟩) | (exact ⟨by rw [aLesser, zite_f (fun z => zb_eq0.1 qc_4 z.2.2.1)], rfl⟩) | (exact ⟨by rw [aLesser, zite_f (fun z => qc_5 z.2.2.2)], rfl⟩)
theorem c_Mo_same {d : Nat} {kd : ZK} {m : ZM} {G : GR} {p x y : Int} (h : MG kd m G) : CtI (d + 4) M_Mo_same [(2, 78), (0, p), (0, x), (0, y)] kd m (qE m (aSame G p x y)) := by
  have r0 := h.s.r0
  have r1_q := h.s.r1
  have r2 := h.s.r2
  have r3 := h.s.r3
  have r4 := h.s.r4
  have r5_q := h.s.r5
  have r7 := h.s.r7
  have r12 := h.s.r12
  have r13 := h.s.r13
  have r15 := h.s.r15
  have r17 := h.s.r17
  have r18 := h.s.r18
  have r19 := h.s.r19
  have r20 := h.s.r20
  have r21 := h.s.r21
  have r22 := h.s.r22
  have hok := h.ok.1
  have hq0 : nQ G 0 = G 0 := rfl
  have hq1 : nQ G 1 = G 1 := rfl
  have ha0 : nA G 0 = G 2 := rfl
  have ha1 : nA G 1 = G 3 := rfl
  have key : (isQ G p x ∧ isQ G p y ∧ x ≠ y) → Ev (d + 4) M_Mo_same 0 0 38 [(2, 78), (0, p), (0, x), (0, y), (0, 1), (0, 0), zJ, zJ] [] kd m (zqI kd (qE m (aSame G p x y))) := by
    intro hc_q
    have hp := hc_q.1.1
    have n1_q := h.ok.q p
    have n2_q := h.ok.q (1 - p)
    have n3_q := h.ok.a p
    have n4_q := h.ok.a (1 - p)
    have qL0 := zfor1 (nQ G (1 - p)) (fun (k : Int) (t : Int) => Ev (d + 4) M_Mo_same 0 0 38 [(2, 78), (0, p), (0, x), (0, y), (0, t), (0, k), zJ, zJ] [] kd m (zqI kd (qE m (aSame G p x y)))) (fun (k : Int) (t : Int) => 0 ≤ k ∧ t = zb (zal k (fun k => pW G p x k = pW G p y k ∧ isSmS G p x y k))) (by
      intro k t hb_q hI0 qKL0
      obtain ⟨hk0, ht⟩ := hI0
      have qL1 := zfor1 (nA G p) (fun (a : Int) (t2_q : Int) => Ev (d + 4) M_Mo_same 0 0 84 [(2, 78), (0, p), (0, x), (0, y), (0, t2_q), (0, k), (0, a), zJ] [] kd m (zqI kd (qE m (aSame G p x y)))) (fun (a : Int) (t2_q : Int) => 0 ≤ a ∧ k < nQ G (1 - p) ∧ t2_q = zb ((zal k (fun k => pW G p x k = pW G p y k ∧ isSmS G p x y k) ∧ pW G p x k = pW G p y k) ∧ zal a (fun a => zal (nA G (1 - p)) fun b => pV G p x k a b = pV G p y k a b ∧ pB G p x k a b = pB G p y k a b))) (by
        intro a t2_q hb_q hI1 qKL1
        obtain ⟨ha_, hkl, ht2⟩ := hI1
        have qL2 := zfor1 (nA G (1 - p)) (fun (b : Int) (t3_q : Int) => Ev (d + 4) M_Mo_same 0 0 97 [(2, 78), (0, p), (0, x), (0, y), (0, t3_q), (0, k), (0, a), (0, b)] [] kd m (zqI kd (qE m (aSame G p x y)))) (fun (b : Int) (t3_q : Int) => 0 ≤ b ∧ a < nA G p ∧ t3_q = zb (((zal k (fun k => pW G p x k = pW G p y k ∧ isSmS G p x y k) ∧ pW G p x k = pW G p y k) ∧ zal a (fun a => zal (nA G (1 - p)) fun b => pV G p x k a b = pV G p y k a b ∧ pB G p x k a b = pB G p y k a b)) ∧ zal b (fun b => pV G p x k a b = pV G p y k a b ∧ pB G p x k a b = pB G p y k a b))) (by
          intro b t3_q hb_q hI2 qKL2
          obtain ⟨hb0, hal, ht3⟩ := hI2
          refine T_Mo_same_97 ?_
          try simp only [r0, r1_q, r2, r3, r4, r5_q, r7, r12, r13, r15, r17, r18, r19, r20, r21, r22]
          rw [iw_s (x := 1 - p) (by omega) (by omega)]
          refine ⟨h.s.o, _, c_Mo_answers h (by omega), ?_⟩
          rintro _ _ ⟨rfl, rfl⟩
          refine ⟨fun qc_1 => ?_, fun qc_1 => ?_⟩
          · skip
            rw [iw_s (x := a + 1) (by omega) (by omega)]
            exact qKL1 t3_q (by omega) ⟨by omega, by omega, by rw [ht3, show b = nA G (1 - p) by omega]; exact zb_congr ⟨fun z => ⟨z.1.1, (zal_s ha_).2 ⟨z.1.2, z.2⟩⟩, fun z => ⟨⟨z.1, ((zal_s ha_).1 z.2).1⟩, ((zal_s ha_).1 z.2).2⟩⟩⟩
          · skip
            refine ⟨fun qc_2 => ?_, fun qc_2 => ?_⟩
            · skip
              refine T_Mo_same_150 ⟨fun qc_4 => ?_, fun qc_4 => absurd rfl qc_4⟩
              rw [iw_s (x := b + 1) (by omega) (by omega)]
              first | exact qKL2 0 (by omega) ⟨by omega, by omega, (zbF (fun z => zb_eq0.1 (ht3.symm.trans qc_2) ⟨z.1, ((zal_s hb0).1 z.2).1⟩))⟩ | exact qKL2 0 (by omega) ⟨by omega, by omega, (zbF (fun z => qc_3 ((zal_s hb0).1 z.2).2.1))⟩
            · skip
              refine ⟨h.s.o, _, c_Mo_seenV h (by omega) (by omega) (by omega) (by omega), ?_⟩
              rintro _ _ ⟨rfl, rfl⟩
              refine ⟨h.s.o, _, c_Mo_seenV h (by omega) (by omega) (by omega) (by omega), ?_⟩
              rintro _ _ ⟨rfl, rfl⟩
              refine ⟨fun qc_3 => ?_, fun qc_3 => ?_⟩
              · skip
                refine T_Mo_same_150 ⟨fun qc_4 => ?_, fun qc_4 => absurd rfl qc_4⟩
                rw [iw_s (x := b + 1) (by omega) (by omega)]
                first | exact qKL2 0 (by omega) ⟨by omega, by omega, (zbF (fun z => zb_eq0.1 (ht3.symm.trans qc_2) ⟨z.1, ((zal_s hb0).1 z.2).1⟩))⟩ | exact qKL2 0 (by omega) ⟨by omega, by omega, (zbF (fun z => qc_3 ((zal_s hb0).1 z.2).2.1))⟩
              · skip
                refine T_Mo_same_150 ⟨fun qc_4 => ?_, fun qc_4 => ?_⟩
                · rw [iw_s (x := b + 1) (by omega) (by omega)]
                  exact qKL2 0 (by omega) ⟨by omega, by omega, (zbF (fun z => absurd qc_4 (by decide)))⟩
                · refine ⟨h.s.o, _, c_Mo_seenB h (by omega) (by omega) (by omega) (by omega), ?_⟩
                  rintro _ _ ⟨rfl, rfl⟩
                  refine ⟨h.s.o, _, c_Mo_seenB h (by omega) (by omega) (by omega) (by omega), ?_⟩
                  rintro _ _ ⟨rfl, rfl⟩
                  refine ⟨fun qc_5 => ?_, fun qc_5 => ?_⟩
                  · rw [iw_s (x := b + 1) (by omega) (by omega)]
                    exact qKL2 0 (by omega) ⟨by omega, by omega, (zbF (fun z => qc_5 ((zal_s hb0).1 z.2).2.2))⟩
                  · rw [iw_s (x := b + 1) (by omega) (by omega)]
                    exact qKL2 1 (by omega) ⟨by omega, by omega, (zbT ⟨(zb_ne0.1 (fun e_ => qc_2 (ht3.trans e_))).1, (zal_s hb0).2 ⟨(zb_ne0.1 (fun e_ => qc_2 (ht3.trans e_))).2, ⟨Classical.not_not.1 qc_3, Classical.not_not.1 qc_5⟩⟩⟩)⟩)
        refine T_Mo_same_84 ?_
        try simp only [r0, r1_q, r2, r3, r4, r5_q, r7, r12, r13, r15, r17, r18, r19, r20, r21, r22]
        refine ⟨h.s.o, _, c_Mo_answers h (by omega), ?_⟩
        rintro _ _ ⟨rfl, rfl⟩
        refine ⟨fun qc_1 => ?_, fun qc_1 => ?_⟩
        · skip
          rw [iw_s (x := k + 1) (by omega) (by omega)]
          exact qKL0 t2_q (by omega) ⟨by omega, by rw [ht2, show a = nA G p by omega]; exact zb_congr ⟨fun z => (zal_s hk0).2 ⟨z.1.1, z.1.2, z.2⟩, fun z => ⟨⟨((zal_s hk0).1 z).1, ((zal_s hk0).1 z).2.1⟩, ((zal_s hk0).1 z).2.2⟩⟩⟩
        · skip
          exact qL2 0 t2_q (by omega) ⟨by decide, by omega, by rw [ht2]; exact zb_congr ⟨fun z => ⟨z, zal_0 _⟩, fun z => z.1⟩⟩)
      refine T_Mo_same_38 ?_
      try simp only [r0, r1_q, r2, r3, r4, r5_q, r7, r12, r13, r15, r17, r18, r19, r20, r21, r22]
      rw [iw_s (x := 1 - p) (by omega) (by omega)]
      refine ⟨h.s.o, _, c_Mo_questions h (by omega), ?_⟩
      rintro _ _ ⟨rfl, rfl⟩
      refine ⟨fun qc_1 => ?_, fun qc_1 => ?_⟩
      · skip
        refine ⟨_, c_Mo_truth, ?_⟩
        rintro _ _ ⟨rfl, rfl⟩
        rw [show k = nQ G (1 - p) by omega] at ht
        refine ⟨?_, rfl⟩
        rw [ht, trB, aSame, zite_t hc_q.1, zite_t hc_q.2.1, zite_t hc_q.2.2]
        exact zb_congr Iff.rfl
      · skip
        refine ⟨fun qc_2 => ?_, fun qc_2 => ?_⟩
        · skip
          first | exact qL1 0 0 (by omega) ⟨by decide, by omega, (zbF (fun z => zb_eq0.1 (ht.symm.trans qc_2) z.1.1))⟩ | exact qL1 0 0 (by omega) ⟨by decide, by omega, (zbF (fun z => qc_3 z.1.2))⟩ | exact qL1 0 1 (by omega) ⟨by decide, by omega, (zbT ⟨⟨zb_ne0.1 (fun e_ => qc_2 (ht.trans e_)), Classical.not_not.1 qc_3⟩, zal_0 _⟩)⟩
        · skip
          refine ⟨h.s.o, _, c_Mo_weightSeen h (by omega) (by omega), ?_⟩
          rintro _ _ ⟨rfl, rfl⟩
          refine ⟨h.s.o, _, c_Mo_weightSeen h (by omega) (by omega), ?_⟩
          rintro _ _ ⟨rfl, rfl⟩
          refine ⟨fun qc_3 => ?_, fun qc_3 => ?_⟩
          · skip
            first | exact qL1 0 0 (by omega) ⟨by decide, by omega, (zbF (fun z => zb_eq0.1 (ht.symm.trans qc_2) z.1.1))⟩ | exact qL1 0 0 (by omega) ⟨by decide, by omega, (zbF (fun z => qc_3 z.1.2))⟩ | exact qL1 0 1 (by omega) ⟨by decide, by omega, (zbT ⟨⟨zb_ne0.1 (fun e_ => qc_2 (ht.trans e_)), Classical.not_not.1 qc_3⟩, zal_0 _⟩)⟩
          · skip
            first | exact qL1 0 0 (by omega) ⟨by decide, by omega, (zbF (fun z => zb_eq0.1 (ht.symm.trans qc_2) z.1.1))⟩ | exact qL1 0 0 (by omega) ⟨by decide, by omega, (zbF (fun z => qc_3 z.1.2))⟩ | exact qL1 0 1 (by omega) ⟨by decide, by omega, (zbT ⟨⟨zb_ne0.1 (fun e_ => qc_2 (ht.trans e_)), Classical.not_not.1 qc_3⟩, zal_0 _⟩)⟩)
    exact qL0 0 1 (by omega) ⟨by decide, (zbT (zal_0 _))⟩
  refine S_Mo_same ?_
  try simp only [r0, r1_q, r2, r3, r4, r5_q, r7, r12, r13, r15, r17, r18, r19, r20, r21, r22]
  refine ⟨_, c_Mo_isPlayer, ?_⟩
  rintro _ _ ⟨rfl, rfl⟩
  refine ⟨fun qc_1 => ?_, fun qc_1 => ?_⟩
  · skip
    first | exact ⟨by rw [aSame, zite_f (fun z => zb_eq0.1 qc_1 z.1)], rfl⟩ | exact ⟨by rw [aSame, zite_f (zb_eq0.1 qc_2)], rfl⟩ | exact ⟨by rw [aSame, zite_t (zb_ne0.1 qc_2), zite_f (zb_eq0.1 qc_3)], rfl⟩ | exact ⟨by rw [aSame, zite_t (zb_ne0.1 qc_2), zite_t (zb_ne0.1 qc_3), zite_f qc_4], rfl⟩
  · skip
    refine ⟨h.s.o, _, c_Mo_isQuestion h (zb_ne0.1 qc_1), ?_⟩
    rintro _ _ ⟨rfl, rfl⟩
    refine ⟨fun qc_2 => ?_, fun qc_2 => ?_⟩
    · skip
      first | exact ⟨by rw [aSame, zite_f (fun z => zb_eq0.1 qc_1 z.1)], rfl⟩ | exact ⟨by rw [aSame, zite_f (zb_eq0.1 qc_2)], rfl⟩ | exact ⟨by rw [aSame, zite_t (zb_ne0.1 qc_2), zite_f (zb_eq0.1 qc_3)], rfl⟩ | exact ⟨by rw [aSame, zite_t (zb_ne0.1 qc_2), zite_t (zb_ne0.1 qc_3), zite_f qc_4], rfl⟩
    · skip
      refine ⟨h.s.o, _, c_Mo_isQuestion h (zb_ne0.1 qc_1), ?_⟩
      rintro _ _ ⟨rfl, rfl⟩
      refine ⟨fun qc_3 => ?_, fun qc_3 => ?_⟩
      · skip
        first | exact ⟨by rw [aSame, zite_f (fun z => zb_eq0.1 qc_1 z.1)], rfl⟩ | exact ⟨by rw [aSame, zite_f (zb_eq0.1 qc_2)], rfl⟩ | exact ⟨by rw [aSame, zite_t (zb_ne0.1 qc_2), zite_f (zb_eq0.1 qc_3)], rfl⟩ | exact ⟨by rw [aSame, zite_t (zb_ne0.1 qc_2), zite_t (zb_ne0.1 qc_3), zite_f qc_4], rfl⟩
      · skip
        refine ⟨fun qc_4 => ?_, fun qc_4 => ?_⟩
        · skip
          exact key ⟨zb_ne0.1 qc_2, zb_ne0.1 qc_3, qc_4⟩
        · skip
          first | exact ⟨by rw [aSame, zite_f (fun z => zb_eq0.1 qc_1 z.1)], rfl⟩ | exact ⟨by rw [aSame, zite_f (zb_eq0.1 qc_2)], rfl⟩ | exact ⟨by rw [aSame, zite_t (zb_ne0.1 qc_2), zite_f (zb_eq0.1 qc_3)], rfl⟩ | exact ⟨by rw [aSame, zite_t (zb_ne0.1 qc_2), zite_t (zb_ne0.1 qc_3), zite_f qc_4], rfl⟩
