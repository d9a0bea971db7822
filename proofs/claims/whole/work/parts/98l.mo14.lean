/-! THE MODEL, fourteenth: decide, parity, exchange -/
theorem DM.rd {m mm : ZM} {G K : GR} (h : DM m G mm K) {p x y a b : Int} (hp : p = 0 ∨ p = 1) (hx : 0 ≤ x ∧ x < nQ G p) (hy : 0 ≤ y ∧ y < nQ G (1 - p)) (ha_q : 0 ≤ a ∧ a < nA G p) (hb_q : 0 ≤ b ∧ b < nA G (1 - p)) : (mm 79 (29 + zS p x y a b) = K (29 + zS p x y a b) ∧ 0 ≤ K (29 + zS p x y a b) ∧ K (29 + zS p x y a b) ≤ 1) ∧ (mm 79 (429 + zS p x y a b) = K (429 + zS p x y a b) ∧ 0 ≤ K (429 + zS p x y a b) ∧ K (429 + zS p x y a b) ≤ 12) := by
  have e1_q := h.sq p
  have e2_q := h.sq (1 - p)
  have q1_q : 0 ≤ x ∧ x < nQ K p := by omega
  have q2_q : 0 ≤ y ∧ y < nQ K (1 - p) := by omega
  have q3_q : 0 ≤ a ∧ a < nA K p := by omega
  have q4_q : 0 ≤ b ∧ b < nA K (1 - p) := by omega
  have b1 := h.2.1.q p
  have b2 := h.2.1.q (1 - p)
  have b3 := h.2.1.a p
  have b4 := h.2.1.a (1 - p)
  have z := zS_in (p := p) (x := x) (y := y) (a := a) (b := b) (by omega) (by omega) (by omega) (by omega)
  have k := pVB_at h.2.1 hp q1_q q2_q q3_q q4_q
  have k3_q := h.2.1.V p x y a b
  have k4_q := h.2.1.B p x y a b
  rw [k.1] at k3_q
  rw [k.2] at k4_q
  exact ⟨⟨h.1 _ (by omega) (by omega), k3_q⟩, ⟨h.1 _ (by omega) (by omega), k4_q⟩⟩
theorem DM.swV {m mm : ZM} {G K : GR} (h : DM m G mm K) {p x y a o b : Int} (hp : p = 0 ∨ p = 1) (hx : 0 ≤ x ∧ x < nQ G p) (hy : 0 ≤ y ∧ y < nQ G (1 - p)) (ha_q : 0 ≤ a ∧ a < nA G p) (hoo : 0 ≤ o ∧ o < nA G p) (hb_q : 0 ≤ b ∧ b < nA G (1 - p)) : DM m G (zup (zup mm 79 (29 + zS p x y a b) (mm 79 (29 + zS p x y o b))) 79 (29 + zS p x y o b) (mm 79 (29 + zS p x y a b))) (swp K (29 + zS p x y a b) (29 + zS p x y o b)) := by
  have r1_q := (h.rd hp hx hy ha_q hb_q).1
  have r2 := (h.rd hp hx hy hoo hb_q).1
  have k1_q := h.putV hp hx hy ha_q hb_q (v := mm 79 (29 + zS p x y o b)) (by omega)
  have k2_q := k1_q.putV hp hx hy hoo hb_q (v := mm 79 (29 + zS p x y a b)) (by omega)
  rw [r1_q.1, r2.1] at k2_q
  rw [r1_q.1, r2.1]
  exact k2_q
theorem DM.swB {m mm : ZM} {G K : GR} (h : DM m G mm K) {p x y a o b : Int} (hp : p = 0 ∨ p = 1) (hx : 0 ≤ x ∧ x < nQ G p) (hy : 0 ≤ y ∧ y < nQ G (1 - p)) (ha_q : 0 ≤ a ∧ a < nA G p) (hoo : 0 ≤ o ∧ o < nA G p) (hb_q : 0 ≤ b ∧ b < nA G (1 - p)) : DM m G (zup (zup mm 79 (429 + zS p x y a b) (mm 79 (429 + zS p x y o b))) 79 (429 + zS p x y o b) (mm 79 (429 + zS p x y a b))) (swp K (429 + zS p x y a b) (429 + zS p x y o b)) := by
  have r1_q := (h.rd hp hx hy ha_q hb_q).2
  have r2 := (h.rd hp hx hy hoo hb_q).2
  have k1_q := h.putB hp hx hy ha_q hb_q (v := mm 79 (429 + zS p x y o b)) (by omega)
  have k2_q := k1_q.putB hp hx hy hoo hb_q (v := mm 79 (429 + zS p x y a b)) (by omega)
  rw [r1_q.1, r2.1] at k2_q
  rw [r1_q.1, r2.1]
  exact k2_q
theorem c_Mo_exchanges {d : Nat} {kd : ZK} {m : ZM} {i j : Int} (h : MS kd m) (hi_q : 0 ≤ i ∧ i < 829) (hj : 0 ≤ j ∧ j < 829) : CtV (d + 1) M_Mo_exchanges [(2, 78), (0, i), (0, j)] kd m (fun m1_q => m1_q = zup (zup m 79 i (m 79 j)) 79 j (m 79 i)) := by
  have e : ∀ v, (zup m 79 i v) 78 0 = 79 := fun v => by rw [zup_off (by decide)]; exact h.r0
  have zi : zIn kd 79 0 i := ⟨829, h.k79, hi_q.1, hi_q.2⟩
  have zj : zIn kd 79 0 j := ⟨829, h.k79, hj.1, hj.2⟩
  refine S_Mo_exchanges ?_
  try simp only [h.r0, e]
  exact ⟨h.o, zi, h.o, h.o, zj, zi, h.o, zj, by trivial⟩
theorem par_gS {G : GR} {x y k : Int} (h2 : 1 ≤ G 2) (h3 : 1 ≤ G 3) (hk : k = 0 ∨ k = 1) : isPar G x y k ↔ ¬ gS G x y ≠ 1 - 2 * k := by
  have hn : isPar G x y 0 → ¬ isPar G x y 1 := fun e f => by
    have a := e 0 (by decide) (by omega) 0 (by decide) (by omega)
    have b := f 0 (by decide) (by omega) 0 (by decide) (by omega)
    have c := a.2 (by decide)
    exact absurd (b.1 c) (by decide)
  unfold gS
  rcases hk with e | e <;> subst e
  · rcases Classical.em (isPar G x y 0) with q | q
    · rw [zite_t q]; exact ⟨fun _ z => z rfl, fun _ => q⟩
    · rw [zite_f q]
      refine ⟨fun z => absurd z q, fun z => absurd (fun w => ?_) z⟩
      rcases Classical.em (isPar G x y 1) with r | r
      · rw [zite_t r] at w; omega
      · rw [zite_f r] at w; omega
  · rcases Classical.em (isPar G x y 0) with q | q
    · rw [zite_t q]
      exact ⟨fun z => absurd z (hn q), fun z => absurd (by omega) z⟩
    · rw [zite_f q]
      rcases Classical.em (isPar G x y 1) with r | r
      · rw [zite_t r]; exact ⟨fun _ z => z (by omega), fun _ => r⟩
      · rw [zite_f r]; exact ⟨fun z => absurd z r, fun z => absurd (by omega) z⟩
theorem c_Mo_decide {d : Nat} {kd : ZK} {m : ZM} {G : GR} {P : Int → GR} {s : Int} {S : Int → GR} {u : Int} {T : Int → Int} {n : Int} (hB_q : MB kd m G P s S u T n) (hS_q : SO G s u T n) {x y a b : Int} : CtI (d + 5) M_Mo_decide [(2, 78), (0, x), (0, y), (0, a), (0, b)] kd m (fun zz m1_q => zz = (fDecide (G, P, s, S, u, T, n) x y a b).1 ∧ MJ kd m m1_q (fDecide (G, P, s, S, u, T, n) x y a b).2) := by
  have h : MG kd m G := hB_q.g hS_q.1
  have r0 := h.s.r0
  have r1_q := h.s.r1
  have r2 := h.s.r2
  have r3 := h.s.r3
  have r4 := h.s.r4
  have r5_q := h.s.r5
  have r7 := h.s.r7
  have r12 := h.s.r12
  have r13 := h.s.r13
  have r15 := h.s.r15
  have r17 := h.s.r17
  have r18 := h.s.r18
  have r19 := h.s.r19
  have r20 := h.s.r20
  have r21 := h.s.r21
  have r22 := h.s.r22
  have hok := h.ok.1
  have hq0 : nQ G 0 = G 0 := rfl
  have hq1 : nQ G 1 = G 1 := rfl
  have ha0 : nA G 0 = G 2 := rfl
  have ha1 : nA G 1 = G 3 := rfl
  refine S_Mo_decide ?_
  try simp only [r0, r1_q, r2, r3, r4, r5_q, r7, r12, r13, r15, r17, r18, r19, r20, r21, r22]
  refine ⟨h.s.o, _, c_Mo_areFour h, ?_⟩
  rintro _ _ ⟨rfl, rfl⟩
  try simp only [r0, r1_q, r2, r3, r4, r5_q, r7, r12, r13, r15, r17, r18, r19, r20, r21, r22]
  refine ⟨fun qc_1 => ?_, fun qc_1 => ?_⟩
  · replace qc_1 := zb_ne0.1 qc_1
    refine ⟨h.s.o, _, c_Mo_keepsPast hB_q hS_q.2.1, ?_⟩
    rintro m6_q h3
    have hM_q := h3.1.1
    have hG3 := h3.1.g hS_q.1
    have hgv := hS_q.1.gV x y a b
    have ez : zS 0 x y a b = (4 * (4 * (5 * x + y) + a) + b) := by rw [zS_v, if_pos rfl]
    have ei : iw (29 + (4 * (4 * (5 * x + y) + a) + b)) = 29 + (4 * (4 * (5 * x + y) + a) + b) := iw_s (by omega) (by omega)
    have hval : m6_q 79 (29 + (4 * (4 * (5 * x + y) + a) + b)) = gV G x y a b := by rw [h3.1.2.1 _ (by omega) (by omega), gV_i ⟨⟨by omega, by omega, by omega, by omega⟩, by omega, by omega, by omega, by omega⟩]
    have ew : iw (1 - gV G x y a b) = 1 - gV G x y a b := iw_s (by omega) (by omega)
    have D := (DM.rf hG3).putV (p := 0) (x := x) (y := y) (a := a) (b := b) (v := 1 - gV G x y a b) (Or.inl rfl) (by omega) (show 0 ≤ y ∧ y < nQ G 1 by omega) (by omega) (show 0 ≤ b ∧ b < nA G 1 by omega) (by omega)
    rw [ez] at D
    have e78 : (zup m6_q 79 (29 + (4 * (4 * (5 * x + y) + a) + b)) (1 - gV G x y a b)) 78 = m6_q 78 := zup_off (by decide)
    refine ⟨hM_q.o, _, c_Mo_fourOf (by omega) (by omega) (by omega) (by omega), ?_⟩
    rintro _ _ ⟨rfl, rfl⟩
    refine ⟨hM_q.o, _, c_Mo_fourOf (by omega) (by omega) (by omega) (by omega), ?_⟩
    rintro _ _ ⟨rfl, rfl⟩
    try simp only [hM_q.r0, ei, hval, ew]
    refine ⟨⟨829, hM_q.k79, by omega, by omega⟩, ⟨829, hM_q.k79, by omega, by omega⟩, hM_q.o, _, c_Mo_fourOf (by omega) (by omega) (by omega) (by omega), ?_⟩
    rintro _ _ ⟨rfl, rfl⟩
    try simp only [e78, hM_q.r0, ei]
    refine ⟨⟨829, hM_q.k79, by omega, by omega⟩, ?_⟩
    simp only [fDecide]
    rw [zif_t qc_1, zup_self, ez]
    exact ⟨rfl, h3.dm D⟩
  · replace qc_1 := zb_eq0.1 (Classical.not_not.1 qc_1)
    simp only [fDecide]
    rw [zif_f qc_1]
    exact ⟨rfl, MJ.rf hB_q⟩
theorem c_Mo_parity {d : Nat} {kd : ZK} {m : ZM} {G : GR} {P : Int → GR} {s : Int} {S : Int → GR} {u : Int} {T : Int → Int} {n : Int} (hB_q : MB kd m G P s S u T n) (hS_q : SO G s u T n) {x y k : Int} : CtI (d + 5) M_Mo_parity [(2, 78), (0, x), (0, y), (0, k)] kd m (fun zz m1_q => zz = (fParity (G, P, s, S, u, T, n) x y k).1 ∧ MJ kd m m1_q (fParity (G, P, s, S, u, T, n) x y k).2) := by
  have h : MG kd m G := hB_q.g hS_q.1
  have r0 := h.s.r0
  have r1_q := h.s.r1
  have r2 := h.s.r2
  have r3 := h.s.r3
  have r4 := h.s.r4
  have r5_q := h.s.r5
  have r7 := h.s.r7
  have r12 := h.s.r12
  have r13 := h.s.r13
  have r15 := h.s.r15
  have r17 := h.s.r17
  have r18 := h.s.r18
  have r19 := h.s.r19
  have r20 := h.s.r20
  have r21 := h.s.r21
  have r22 := h.s.r22
  have hok := h.ok.1
  have hq0 : nQ G 0 = G 0 := rfl
  have hq1 : nQ G 1 = G 1 := rfl
  have ha0 : nA G 0 = G 2 := rfl
  have ha1 : nA G 1 = G 3 := rfl
  have key : ∀ mx : ZM, KP kd m mx G P s S u T n → (isQ G 0 x ∧ isQ G 1 y) → 0 ≤ k → k ≤ 1 → gS G x y ≠ 1 - 2 * k → Ev (d + 5) M_Mo_parity 0 0 41 [(2, 78), (0, x), (0, y), (0, k), (0, 0), zJ] [] kd mx (zqI kd (fun zz m1_q => zz = (fParity (G, P, s, S, u, T, n) x y k).1 ∧ MJ kd m m1_q (fParity (G, P, s, S, u, T, n) x y k).2)) := by
    intro mx h3 hxy hk0 hk1 hsg
    have hM_q := h3.1.1
    have qL0 := zfor2 (G 2) (fun (a : Int) (mm : ZM) (H : GR) => Ev (d + 5) M_Mo_parity 0 0 41 [(2, 78), (0, x), (0, y), (0, k), (0, a), zJ] [] kd mm (zqI kd (fun zz m1_q => zz = (fParity (G, P, s, S, u, T, n) x y k).1 ∧ MJ kd m m1_q (fParity (G, P, s, S, u, T, n) x y k).2))) (fun (a : Int) (mm : ZM) (H : GR) => 0 ≤ a ∧ DM mx G mm H ∧ H = zfold a.toNat (fun a H => zfold (G 3).toNat (fun b K => gup K (29 + zS 0 x y a b) (zb ((a + b) % 2 = k))) H) G) (by
      intro a mm H hb_q hI0 qKL0
      obtain ⟨ha_, hD0, hH⟩ := hI0
      have s0_q := (hD0.sq 0).2
      have qL1 := zfor2 (G 3) (fun (b : Int) (mm : ZM) (K : GR) => Ev (d + 5) M_Mo_parity 0 0 54 [(2, 78), (0, x), (0, y), (0, k), (0, a), (0, b)] [] kd mm (zqI kd (fun zz m1_q => zz = (fParity (G, P, s, S, u, T, n) x y k).1 ∧ MJ kd m m1_q (fParity (G, P, s, S, u, T, n) x y k).2))) (fun (b : Int) (mm : ZM) (K : GR) => (0 ≤ b ∧ a < G 2) ∧ DM mx G mm K ∧ K = zfold b.toNat (fun b K => gup K (29 + zS 0 x y a b) (zb ((a + b) % 2 = k))) H) (by
        intro b mm K hb_q hI1 qKL1
        obtain ⟨⟨hb0, hal⟩, hD1, hK_q⟩ := hI1
        have s1_q := (hD1.sq 1).2
        have hMm : MS kd mm := (hD1.mg hM_q).s
        have htm : Int.tmod (iw (a + b)) 2 = (a + b) % 2 := by rw [iw_s (x := a + b) (by omega) (by omega), Int.tmod_eq_emod_of_nonneg (by omega)]
        have ez : zS 0 x y a b = (4 * (4 * (5 * x + y) + a) + b) := by rw [zS_v, if_pos rfl]
        refine T_Mo_parity_54 ?_
        try simp only [hMm.r0, htm]
        refine ⟨hMm.o, _, c_Mo_answers (hD1.mg hM_q) (Or.inr rfl), ?_⟩
        rintro _ _ ⟨rfl, rfl⟩
        try simp only [hMm.r0, htm]
        rw [s1_q, ha1]
        refine ⟨fun qc_1 => ?_, fun qc_1 => ?_⟩
        · skip
          rw [iw_s (x := a + 1) (by omega) (by omega)]
          exact qKL0 mm K (by omega) ⟨by omega, hD1, by rw [zfold_1 ha_, ← hH, hK_q, show b = G 3 by omega]⟩
        · skip
          refine ⟨hMm.o, ?_⟩
          refine ⟨_, c_Mo_fourOf (by omega) (by omega) (by omega) (by omega), ?_⟩
          rintro _ _ ⟨rfl, rfl⟩
          try simp only [hMm.r0, htm]
          refine ⟨fun qc_2 => ?_, fun qc_2 => ?_⟩
          · skip
            refine ⟨_, c_Mo_truth, ?_⟩
            rintro _ _ ⟨rfl, rfl⟩
            try simp only [hMm.r0, htm]
            refine ⟨(by rw [iw_s (x := 29 + (4 * (4 * (5 * x + y) + a) + b)) (by omega) (by omega)]; exact ⟨829, hMm.k79, by omega, by omega⟩), ?_⟩
            rw [iw_s (x := 29 + (4 * (4 * (5 * x + y) + a) + b)) (by omega) (by omega), ← ez]
            rw [iw_s (x := b + 1) (by omega) (by omega)]
            first | (rw [show (if True then (0 : Int) else 1) = zb ((a + b) % 2 = k) from (by rw [if_pos trivial]; exact zbF qc_2)]; exact qKL1 _ _ (by omega) ⟨⟨by omega, hal⟩, hD1.putV (p := 0) (Or.inl rfl) (by omega) (show 0 ≤ y ∧ y < nQ G 1 by omega) (by omega) (show 0 ≤ b ∧ b < nA G 1 by omega) zb_01, by rw [zfold_1 hb0, ← hK_q]⟩) | (rw [show (if (1 : Int) = 0 then (0 : Int) else 1) = zb ((a + b) % 2 = k) from (by rw [if_neg (by decide)]; exact zbT (Classical.not_not.1 qc_2))]; exact qKL1 _ _ (by omega) ⟨⟨by omega, hal⟩, hD1.putV (p := 0) (Or.inl rfl) (by omega) (show 0 ≤ y ∧ y < nQ G 1 by omega) (by omega) (show 0 ≤ b ∧ b < nA G 1 by omega) zb_01, by rw [zfold_1 hb0, ← hK_q]⟩)
          · skip
            refine ⟨_, c_Mo_truth, ?_⟩
            rintro _ _ ⟨rfl, rfl⟩
            try simp only [hMm.r0, htm]
            refine ⟨(by rw [iw_s (x := 29 + (4 * (4 * (5 * x + y) + a) + b)) (by omega) (by omega)]; exact ⟨829, hMm.k79, by omega, by omega⟩), ?_⟩
            rw [iw_s (x := 29 + (4 * (4 * (5 * x + y) + a) + b)) (by omega) (by omega), ← ez]
            rw [iw_s (x := b + 1) (by omega) (by omega)]
            first | (rw [show (if True then (0 : Int) else 1) = zb ((a + b) % 2 = k) from (by rw [if_pos trivial]; exact zbF qc_2)]; exact qKL1 _ _ (by omega) ⟨⟨by omega, hal⟩, hD1.putV (p := 0) (Or.inl rfl) (by omega) (show 0 ≤ y ∧ y < nQ G 1 by omega) (by omega) (show 0 ≤ b ∧ b < nA G 1 by omega) zb_01, by rw [zfold_1 hb0, ← hK_q]⟩) | (rw [show (if (1 : Int) = 0 then (0 : Int) else 1) = zb ((a + b) % 2 = k) from (by rw [if_neg (by decide)]; exact zbT (Classical.not_not.1 qc_2))]; exact qKL1 _ _ (by omega) ⟨⟨by omega, hal⟩, hD1.putV (p := 0) (Or.inl rfl) (by omega) (show 0 ≤ y ∧ y < nQ G 1 by omega) (by omega) (show 0 ≤ b ∧ b < nA G 1 by omega) zb_01, by rw [zfold_1 hb0, ← hK_q]⟩))
      refine T_Mo_parity_41 ?_
      refine ⟨hM_q.o, _, c_Mo_answers (hD0.mg hM_q) (Or.inl rfl), ?_⟩
      rintro _ _ ⟨rfl, rfl⟩
      rw [s0_q, ha0]
      refine ⟨fun qc_1 => ?_, fun qc_1 => ?_⟩
      · skip
        simp only [fParity]
        rw [zif_t hxy, zif_f (show ¬ k < 0 by omega), zif_t hk1, zif_t hsg]
        rw [show a = G 2 by omega] at hH
        rw [hH] at hD0
        exact ⟨rfl, h3.dm hD0⟩
      · skip
        exact qL1 0 mm H (by omega) ⟨⟨by decide, by omega⟩, hD0, rfl⟩)
    exact qL0 0 mx G (by omega) ⟨by decide, DM.rf (h3.1.g hS_q.1), rfl⟩
  refine S_Mo_parity ?_
  try simp only [r0, r1_q, r2, r3, r4, r5_q, r7, r12, r13, r15, r17, r18, r19, r20, r21, r22]
  refine ⟨h.s.o, _, c_Mo_areTwo h, ?_⟩
  rintro _ _ ⟨rfl, rfl⟩
  try simp only [r0, r1_q, r2, r3, r4, r5_q, r7, r12, r13, r15, r17, r18, r19, r20, r21, r22]
  refine ⟨fun qc_1 => ?_, fun qc_1 => ?_⟩
  · replace qc_1 := zb_eq0.1 qc_1
    simp only [fParity]
    rw [zif_f qc_1]
    exact ⟨rfl, MJ.rf hB_q⟩
  · replace qc_1 := zb_ne0.1 qc_1
    refine ⟨_, c_Mo_in, ?_⟩
    rintro _ _ ⟨rfl, rfl⟩
    try simp only [r0, r1_q, r2, r3, r4, r5_q, r7, r12, r13, r15, r17, r18, r19, r20, r21, r22]
    refine ⟨fun qc_2 => ?_, fun qc_2 => ?_⟩
    · replace qc_2 := zb_ne0.1 qc_2
      refine ⟨h.s.o, _, c_Mo_isParity h (by omega) (by omega), ?_⟩
      rintro _ _ ⟨rfl, rfl⟩
      try simp only [r0, r1_q, r2, r3, r4, r5_q, r7, r12, r13, r15, r17, r18, r19, r20, r21, r22]
      refine ⟨fun qc_3 => ?_, fun qc_3 => ?_⟩
      · replace qc_3 := zb_eq0.1 qc_3
        have hsn : gS G x y ≠ 1 - 2 * k := Classical.byContradiction fun z => qc_3 ((par_gS (x := x) (y := y) (show 1 ≤ G 2 by have := h.ok.2.1 (isQ.told qc_1); omega) (show 1 ≤ G 3 by have := h.ok.2.1 (isQ.told qc_1); omega) (show k = 0 ∨ k = 1 by omega)).2 z)
        refine ⟨h.s.o, _, c_Mo_keepsPast hB_q hS_q.2.1, ?_⟩
        rintro m12_q h3
        exact key _ h3 qc_1 qc_2.1 qc_2.2 hsn
      · replace qc_3 := zb_ne0.1 qc_3
        have hsn := (par_gS (x := x) (y := y) (show 1 ≤ G 2 by have := h.ok.2.1 (isQ.told qc_1); omega) (show 1 ≤ G 3 by have := h.ok.2.1 (isQ.told qc_1); omega) (show k = 0 ∨ k = 1 by omega)).1 qc_3
        simp only [fParity]
        rw [zif_t qc_1, zif_f (show ¬ k < 0 by omega), zif_t qc_2.2, zif_f hsn]
        exact ⟨rfl, MJ.rf hB_q⟩
    · replace qc_2 := zb_eq0.1 (Classical.not_not.1 qc_2)
      simp only [fParity]
      rw [zif_t qc_1]
      rcases (show k < 0 ∨ (¬ k < 0 ∧ ¬ k ≤ 1) by omega) with e | e
      · rw [zif_t e]; exact ⟨rfl, MJ.rf hB_q⟩
      · rw [zif_f e.1, zif_f e.2]; exact ⟨rfl, MJ.rf hB_q⟩
theorem c_Mo_exchange {d : Nat} {kd : ZK} {m : ZM} {G : GR} {P : Int → GR} {s : Int} {S : Int → GR} {u : Int} {T : Int → Int} {n : Int} (hB_q : MB kd m G P s S u T n) (hS_q : SO G s u T n) {p q a o : Int} : CtI (d + 3) M_Mo_exchange [(2, 78), (0, p), (0, q), (0, a), (0, o)] kd m (fun zz m1_q => zz = (fExchange (G, P, s, S, u, T, n) p q a o).1 ∧ MJ kd m m1_q (fExchange (G, P, s, S, u, T, n) p q a o).2) := by
  have h : MG kd m G := hB_q.g hS_q.1
  have r0 := h.s.r0
  have r1_q := h.s.r1
  have r2 := h.s.r2
  have r3 := h.s.r3
  have r4 := h.s.r4
  have r5_q := h.s.r5
  have r7 := h.s.r7
  have r12 := h.s.r12
  have r13 := h.s.r13
  have r15 := h.s.r15
  have r17 := h.s.r17
  have r18 := h.s.r18
  have r19 := h.s.r19
  have r20 := h.s.r20
  have r21 := h.s.r21
  have r22 := h.s.r22
  have hok := h.ok.1
  have hq0 : nQ G 0 = G 0 := rfl
  have hq1 : nQ G 1 = G 1 := rfl
  have ha0 : nA G 0 = G 2 := rfl
  have ha1 : nA G 1 = G 3 := rfl
  have key : ∀ mx : ZM, KP kd m mx G P s S u T n → (isQ G p q ∧ isA G p a ∧ isA G p o ∧ a ≠ o) → Ev (d + 3) M_Mo_exchange 0 0 50 [(2, 78), (0, p), (0, q), (0, a), (0, o), (0, 0), zJ, zJ, zJ] [] kd mx (zqI kd (fun zz m1_q => zz = (fExchange (G, P, s, S, u, T, n) p q a o).1 ∧ MJ kd m m1_q (fExchange (G, P, s, S, u, T, n) p q a o).2)) := by
    intro mx h3 hxy
    have hM_q := h3.1.1
    have hp := hxy.1.1
    have n1_q := h.ok.q p
    have n2_q := h.ok.q (1 - p)
    have n3_q := h.ok.a p
    have n4_q := h.ok.a (1 - p)
    have ep : iw (1 - p) = 1 - p := iw_s (by omega) (by omega)
    have qL0 := zfor2 (nQ G (1 - p)) (fun (g : Int) (mm : ZM) (H : GR) => Ev (d + 3) M_Mo_exchange 0 0 50 [(2, 78), (0, p), (0, q), (0, a), (0, o), (0, g), zJ, zJ, zJ] [] kd mm (zqI kd (fun zz m1_q => zz = (fExchange (G, P, s, S, u, T, n) p q a o).1 ∧ MJ kd m m1_q (fExchange (G, P, s, S, u, T, n) p q a o).2))) (fun (g : Int) (mm : ZM) (H : GR) => 0 ≤ g ∧ DM mx G mm H ∧ H = zfold g.toNat (fun g H => zfold (nA G (1 - p)).toNat (fun b K => swp (swp K (29 + zS p q g a b) (29 + zS p q g o b)) (429 + zS p q g a b) (429 + zS p q g o b)) H) G) (by
      intro g mm H hb_q hI0 qKL0
      obtain ⟨hg0, hD0, hH⟩ := hI0
      have s0_q := (hD0.sq (1 - p)).1
      have qL1 := zfor2 (nA G (1 - p)) (fun (b : Int) (mm : ZM) (K : GR) => Ev (d + 3) M_Mo_exchange 0 0 65 [(2, 78), (0, p), (0, q), (0, a), (0, o), (0, g), (0, b), zJ, zJ] [] kd mm (zqI kd (fun zz m1_q => zz = (fExchange (G, P, s, S, u, T, n) p q a o).1 ∧ MJ kd m m1_q (fExchange (G, P, s, S, u, T, n) p q a o).2))) (fun (b : Int) (mm : ZM) (K : GR) => (0 ≤ b ∧ g < nQ G (1 - p)) ∧ DM mx G mm K ∧ K = zfold b.toNat (fun b K => swp (swp K (29 + zS p q g a b) (29 + zS p q g o b)) (429 + zS p q g a b) (429 + zS p q g o b)) H) (by
        intro b mm K hb_q hI1 qKL1
        obtain ⟨⟨hb0, hgl⟩, hD1, hK_q⟩ := hI1
        have s1_q := (hD1.sq (1 - p)).2
        have hMm : MS kd mm := (hD1.mg hM_q).s
        refine T_Mo_exchange_65 ?_
        try simp only [ep]
        refine ⟨hMm.o, _, c_Mo_answers (hD1.mg hM_q) (by omega), ?_⟩
        rintro _ _ ⟨rfl, rfl⟩
        rw [s1_q]
        refine ⟨fun qc_1 => ?_, fun qc_1 => ?_⟩
        · rw [iw_s (x := g + 1) (by omega) (by omega)]
          exact qKL0 _ K (by omega) ⟨by omega, hD1, by rw [zfold_1 hg0, ← hH, hK_q, show b = nA G (1 - p) by omega]⟩
        · have hbl : b < nA G (1 - p) := by omega
          have zin : ∀ c, 0 ≤ c → c < nA G p → 0 ≤ zS p q g c b ∧ zS p q g c b < 400 := fun c qc_0 qc_1 => zS_in (by omega) (by omega) (by omega) (by omega)
          have za := zin a (by omega) (by omega)
          have zo := zin o (by omega) (by omega)
          have k131 : Ev (d + 3) M_Mo_exchange 0 0 131 [(2, 78), (0, p), (0, q), (0, a), (0, o), (0, g), (0, b), (0, zS p q g a b), zJ] [(0, zS p q g o b)] kd mm (zqI kd (fun zz m1_q => zz = (fExchange (G, P, s, S, u, T, n) p q a o).1 ∧ MJ kd m m1_q (fExchange (G, P, s, S, u, T, n) p q a o).2)) := by
            refine T_Mo_exchange_131 ?_
            rw [iw_s (x := 29 + zS p q g a b) (by omega) (by omega), iw_s (x := 29 + zS p q g o b) (by omega) (by omega), iw_s (x := 429 + zS p q g a b) (by omega) (by omega), iw_s (x := 429 + zS p q g o b) (by omega) (by omega)]
            refine ⟨hMm.o, _, c_Mo_exchanges hMm (by omega) (by omega), ?_⟩
            rintro _ rfl
            have hD2 := hD1.swV (y := g) (b := b) hp ⟨by omega, by omega⟩ ⟨by omega, by omega⟩ (a := a) (o := o) ⟨by omega, by omega⟩ ⟨by omega, by omega⟩ ⟨by omega, by omega⟩ (x := q)
            refine ⟨hMm.o, _, c_Mo_exchanges (hD2.mg hM_q).s (by omega) (by omega), ?_⟩
            rintro _ rfl
            rw [iw_s (x := b + 1) (by omega) (by omega)]
            exact qKL1 _ _ (by omega) ⟨⟨by omega, hgl⟩, hD2.swB hp ⟨by omega, by omega⟩ ⟨by omega, by omega⟩ ⟨by omega, by omega⟩ ⟨by omega, by omega⟩ ⟨by omega, by omega⟩, by rw [zfold_1 hb0, ← hK_q]⟩
          have k102 : Ev (d + 3) M_Mo_exchange 0 0 102 [(2, 78), (0, p), (0, q), (0, a), (0, o), (0, g), (0, b), zJ, zJ] [(0, zS p q g a b)] kd mm (zqI kd (fun zz m1_q => zz = (fExchange (G, P, s, S, u, T, n) p q a o).1 ∧ MJ kd m m1_q (fExchange (G, P, s, S, u, T, n) p q a o).2)) := by
            refine T_Mo_exchange_102 ⟨fun qc_2 => ?_, fun qc_2 => ?_⟩
            · refine ⟨_, c_Mo_fourOf (by omega) (by omega) (by omega) (by omega), ?_⟩
              rintro _ _ ⟨rfl, rfl⟩
              have e : zS p q g o b = 4 * (4 * (5 * g + q) + b) + o := by rw [zS_v, if_neg qc_2]
              rw [← e]
              exact k131
            · refine ⟨_, c_Mo_fourOf (by omega) (by omega) (by omega) (by omega), ?_⟩
              rintro _ _ ⟨rfl, rfl⟩
              have e : zS p q g o b = 4 * (4 * (5 * q + g) + o) + b := by rw [zS_v, if_pos (by omega)]
              rw [← e]
              exact k131
          refine ⟨fun qc_2 => ?_, fun qc_2 => ?_⟩
          · refine ⟨_, c_Mo_fourOf (by omega) (by omega) (by omega) (by omega), ?_⟩
            rintro _ _ ⟨rfl, rfl⟩
            have e : zS p q g a b = 4 * (4 * (5 * g + q) + b) + a := by rw [zS_v, if_neg qc_2]
            rw [← e]
            exact k102
          · refine ⟨_, c_Mo_fourOf (by omega) (by omega) (by omega) (by omega), ?_⟩
            rintro _ _ ⟨rfl, rfl⟩
            have e : zS p q g a b = 4 * (4 * (5 * q + g) + a) + b := by rw [zS_v, if_pos (by omega)]
            rw [← e]
            exact k102)
      have hMm : MS kd mm := (hD0.mg hM_q).s
      refine T_Mo_exchange_50 ?_
      try simp only [ep]
      refine ⟨hMm.o, _, c_Mo_questions (hD0.mg hM_q) (by omega), ?_⟩
      rintro _ _ ⟨rfl, rfl⟩
      rw [s0_q]
      refine ⟨fun qc_1 => ?_, fun qc_1 => ?_⟩
      · rw [show g = nQ G (1 - p) by omega] at hH
        rw [hH] at hD0
        simp only [fExchange]
        rw [zif_t hxy]
        exact ⟨rfl, h3.dm hD0⟩
      · exact qL1 0 _ H (by omega) ⟨⟨by decide, by omega⟩, hD0, rfl⟩)
    exact qL0 0 mx G (by omega) ⟨by decide, DM.rf (h3.1.g hS_q.1), rfl⟩
  refine S_Mo_exchange ?_
  try simp only [r0, r1_q, r2, r3, r4, r5_q, r7, r12, r13, r15, r17, r18, r19, r20, r21, r22]
  refine ⟨_, c_Mo_isPlayer, ?_⟩
  rintro _ _ ⟨rfl, rfl⟩
  try simp only [r0, r1_q, r2, r3, r4, r5_q, r7, r12, r13, r15, r17, r18, r19, r20, r21, r22]
  refine ⟨fun qc_1 => ?_, fun qc_1 => ?_⟩
  · replace qc_1 := zb_eq0.1 qc_1
    simp only [fExchange]
    rw [zif_f (by intro z; exact qc_1 z.1.1)]
    exact ⟨rfl, MJ.rf hB_q⟩
  · replace qc_1 := zb_ne0.1 qc_1
    refine ⟨h.s.o, _, c_Mo_isQuestion h qc_1, ?_⟩
    rintro _ _ ⟨rfl, rfl⟩
    try simp only [r0, r1_q, r2, r3, r4, r5_q, r7, r12, r13, r15, r17, r18, r19, r20, r21, r22]
    refine ⟨fun qc_2 => ?_, fun qc_2 => ?_⟩
    · replace qc_2 := zb_eq0.1 qc_2
      simp only [fExchange]
      rw [zif_f (by intro z; exact qc_2 z.1)]
      exact ⟨rfl, MJ.rf hB_q⟩
    · replace qc_2 := zb_ne0.1 qc_2
      refine ⟨h.s.o, _, c_Mo_isAnswer h qc_1, ?_⟩
      rintro _ _ ⟨rfl, rfl⟩
      try simp only [r0, r1_q, r2, r3, r4, r5_q, r7, r12, r13, r15, r17, r18, r19, r20, r21, r22]
      refine ⟨fun qc_3 => ?_, fun qc_3 => ?_⟩
      · replace qc_3 := zb_eq0.1 qc_3
        simp only [fExchange]
        rw [zif_f (by intro z; exact qc_3 z.2.1)]
        exact ⟨rfl, MJ.rf hB_q⟩
      · replace qc_3 := zb_ne0.1 qc_3
        refine ⟨h.s.o, _, c_Mo_isAnswer h qc_1, ?_⟩
        rintro _ _ ⟨rfl, rfl⟩
        try simp only [r0, r1_q, r2, r3, r4, r5_q, r7, r12, r13, r15, r17, r18, r19, r20, r21, r22]
        refine ⟨fun qc_4 => ?_, fun qc_4 => ?_⟩
        · replace qc_4 := zb_eq0.1 qc_4
          simp only [fExchange]
          rw [zif_f (by intro z; exact qc_4 z.2.2.1)]
          exact ⟨rfl, MJ.rf hB_q⟩
        · replace qc_4 := zb_ne0.1 qc_4
          refine ⟨fun qc_5 => ?_, fun qc_5 => ?_⟩
          · skip
            refine ⟨h.s.o, _, c_Mo_keepsPast hB_q hS_q.2.1, ?_⟩
            rintro m15 h3
            exact key _ h3 ⟨qc_2, qc_3, qc_4, qc_5⟩
          · skip
            simp only [fExchange]
            rw [zif_f (by intro z; exact qc_5 z.2.2.2)]
            exact ⟨rfl, MJ.rf hB_q⟩
