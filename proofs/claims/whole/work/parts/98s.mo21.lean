/-! THE MODEL, twenty-first: without, cut -/
theorem wzU_e {G K : GR} {Z Y : Int → Int → Prop} (h : wzU G K Z) (e : ∀ x y, 0 ≤ x → x < G 0 → 0 ≤ y → y < G 1 → (Z x y ↔ Y x y)) : wzU G K Y := ⟨fun x y x0_q x1_q y0 y1 => ⟨fun z => (h.1 x y x0_q x1_q y0 y1).1 ((e x y x0_q x1_q y0 y1).2 z), fun z => (h.1 x y x0_q x1_q y0 y1).2 (fun z2 => z ((e x y x0_q x1_q y0 y1).1 z2))⟩, h.2⟩
theorem c_Mo_mostWithout {d : Nat} {kd : ZK} {m : ZM} {G : GR} (h : MG kd m G) (hto : 0 < G 0) {a b : Int} : CtI (d + 7) M_Mo_mostWithout [(2, 78), (0, a), (0, b)] kd m (fun x m1_q => (∃ K, GOK K ∧ isWz G (fun x y => (a = -1 ∨ x = a) ∧ (b = -1 ∨ y = b)) K ∧ isMx K x) ∧ MF m m1_q) := by
  have hok := h.ok.1
  have hq0 : nQ G 0 = G 0 := rfl
  have hq1 : nQ G 1 = G 1 := rfl
  have hM0 := h.s
  have key : ∀ mx : ZM, (∀ c, c ≠ 81 → mx c = m c) → (∀ i, 0 ≤ i → i < 829 → mx 81 i = m 79 i) → Ev (d + 7) M_Mo_mostWithout 0 0 15 [(2, 78), (0, a), (0, b), (0, 0), zJ] [] kd mx (zqI kd (fun x m1_q => (∃ K, GOK K ∧ isWz G (fun x y => (a = -1 ∨ x = a) ∧ (b = -1 ∨ y = b)) K ∧ isMx K x) ∧ MF m m1_q)) := by
    intro mx hfx h81
    have hx : MG kd mx G := h.fr (hfx 78 (by decide)) (hfx 79 (by decide))
    have hM_q := hx.s
    have qL0 := zfor2 (G 0) (fun (i : Int) (mm : ZM) (K : GR) => Ev (d + 7) M_Mo_mostWithout 0 0 15 [(2, 78), (0, a), (0, b), (0, i), zJ] [] kd mm (zqI kd (fun x m1_q => (∃ K, GOK K ∧ isWz G (fun x y => (a = -1 ∨ x = a) ∧ (b = -1 ∨ y = b)) K ∧ isMx K x) ∧ MF m m1_q))) (fun (i : Int) (mm : ZM) (K : GR) => 0 ≤ i ∧ DM mx G mm K ∧ (∀ q, (q < 0 ∨ 829 ≤ q) → mm 79 q = m 79 q) ∧ wzU G K (fun x y => ((a = -1 ∨ x = a) ∧ (b = -1 ∨ y = b)) ∧ (x < i ∨ x = i ∧ y < 0))) (by
      intro i mm K hb_q hI0 qKL0
      obtain ⟨hi_, hD, hO, hU⟩ := hI0
      have s0_q := (hD.sq 0).1
      have qL1 := zfor2 (G 1) (fun (j : Int) (mm : ZM) (K : GR) => Ev (d + 7) M_Mo_mostWithout 0 0 27 [(2, 78), (0, a), (0, b), (0, i), (0, j)] [] kd mm (zqI kd (fun x m1_q => (∃ K, GOK K ∧ isWz G (fun x y => (a = -1 ∨ x = a) ∧ (b = -1 ∨ y = b)) K ∧ isMx K x) ∧ MF m m1_q))) (fun (j : Int) (mm : ZM) (K : GR) => (0 ≤ j ∧ i < G 0) ∧ DM mx G mm K ∧ (∀ q, (q < 0 ∨ 829 ≤ q) → mm 79 q = m 79 q) ∧ wzU G K (fun x y => ((a = -1 ∨ x = a) ∧ (b = -1 ∨ y = b)) ∧ (x < i ∨ x = i ∧ y < j))) (by
        intro j mm K hb_q hI1 qKL1
        obtain ⟨⟨hj0, hil⟩, hD1, hO1, hU1⟩ := hI1
        have hmg := hD1.mg hM_q
        have hMm := hmg.s
        refine T_Mo_mostWithout_27 ?_
        refine ⟨hMm.o, _, c_Mo_questions hmg (Or.inr rfl), ?_⟩
        rintro _ _ ⟨rfl, rfl⟩
        rw [(hD1.sq 1).1, hq1]
        refine ⟨fun qc_1 => ?_, fun qc_1 => ?_⟩
        · rw [iw_s (x := i + 1) (by omega) (by omega)]
          exact qKL0 mm K (by omega) ⟨by omega, hD1, hO1, wzU_e hU1 (fun x y x0_q x1_q y0 y1 => by omega)⟩
        · have hjl : j < G 1 := by omega
          rw [iw_s (x := j + 1) (by omega) (by omega)]
          have knot : ¬ ((a = -1 ∨ i = a) ∧ (b = -1 ∨ j = b)) → Ev (d + 7) M_Mo_mostWithout 0 0 27 [(2, 78), (0, a), (0, b), (0, i), (0, j + 1)] [] kd mm (zqI kd (fun x m1_q => (∃ K, GOK K ∧ isWz G (fun x y => (a = -1 ∨ x = a) ∧ (b = -1 ∨ y = b)) K ∧ isMx K x) ∧ MF m m1_q)) := fun hn =>
            qKL1 mm K (by omega) ⟨⟨by omega, hil⟩, hD1, hO1, wzU_e hU1 (fun x y x0_q x1_q y0 y1 => by
              refine ⟨fun z => ⟨z.1, by omega⟩, fun z => ⟨z.1, ?_⟩⟩
              rcases (show (x < i ∨ x = i ∧ y < j) ∨ (x = i ∧ y = j) by omega) with q | q
              · exact q
              · exact absurd (by rw [← q.1, ← q.2]; exact z.1) hn)⟩
          have k58 : ((a = -1 ∨ i = a) ∧ (b = -1 ∨ j = b)) → Ev (d + 7) M_Mo_mostWithout 0 0 58 [(2, 78), (0, a), (0, b), (0, i), (0, j)] [] kd mm (zqI kd (fun x m1_q => (∃ K, GOK K ∧ isWz G (fun x y => (a = -1 ∨ x = a) ∧ (b = -1 ∨ y = b)) K ∧ isMx K x) ∧ MF m m1_q)) := fun hz => by
            refine T_Mo_mostWithout_58 ⟨hMm.o, _, c_Mo_twoOf (by omega) (by omega), ?_⟩
            rintro _ _ ⟨rfl, rfl⟩
            try simp only [hMm.r0]
            have ez : zC 0 i j = 5 * i + j := by rw [zC_v, if_pos rfl]
            rw [iw_s (x := 4 + (5 * i + j)) (by omega) (by omega), iw_s (x := j + 1) (by omega) (by omega)]
            refine ⟨⟨829, hMm.k79, by omega, by omega⟩, ?_⟩
            have hD2 := hD1.putW (p := 0) (x := i) (y := j) (v := 0) (Or.inl rfl) ⟨hi_, hil⟩ (show 0 ≤ j ∧ j < nQ G 1 from ⟨hj0, hjl⟩) ⟨by decide, by decide⟩
            rw [ez] at hD2
            refine qKL1 _ _ (by omega) ⟨⟨by omega, hil⟩, hD2, fun q hq => by rw [zup_nj (by omega)]; exact hO1 q hq, fun x y x0_q x1_q y0 y1 => ?_, fun x y a' b' => by rw [gV_gupW (by omega)]; exact hU1.2 x y a' b'⟩
            have w := hU1.1 x y x0_q x1_q y0 y1
            rw [gW_gupW]
            rcases Classical.em (x = i ∧ y = j) with q | q
            · rw [if_pos ⟨⟨x0_q, by omega, y0, by omega⟩, by omega⟩]
              refine ⟨fun _ => rfl, fun z => absurd ⟨?_, by omega⟩ z⟩
              rw [q.1, q.2]
              exact hz
            · rw [if_neg (fun z => q (by omega))]
              exact ⟨fun z => w.1 ⟨z.1, by omega⟩, fun z => w.2 (fun z2 => z ⟨z2.1, by omega⟩)⟩
          have k47 : (a = -1 ∨ i = a) → Ev (d + 7) M_Mo_mostWithout 0 0 47 [(2, 78), (0, a), (0, b), (0, i), (0, j)] [] kd mm (zqI kd (fun x m1_q => (∃ K, GOK K ∧ isWz G (fun x y => (a = -1 ∨ x = a) ∧ (b = -1 ∨ y = b)) K ∧ isMx K x) ∧ MF m m1_q)) := fun hz => by
            refine T_Mo_mostWithout_47 ?_
            rw [iw_s (x := j + 1) (by omega) (by omega)]
            refine ⟨fun qc_2 => k58 ⟨hz, Or.inl qc_2⟩, fun qc_2 => ⟨fun qc_3 => knot (fun z => z.2.elim qc_2 qc_3), fun qc_3 => k58 ⟨hz, Or.inr (Classical.not_not.1 qc_3)⟩⟩⟩
          refine ⟨fun qc_2 => k47 (Or.inl qc_2), fun qc_2 => ⟨fun qc_3 => knot (fun z => z.1.elim qc_2 qc_3), fun qc_3 => k47 (Or.inr (Classical.not_not.1 qc_3))⟩⟩)
      have hmg := hD.mg hM_q
      refine T_Mo_mostWithout_15 ?_
      refine ⟨hmg.s.o, _, c_Mo_questions hmg (Or.inl rfl), ?_⟩
      rintro _ _ ⟨rfl, rfl⟩
      rw [s0_q, hq0]
      refine ⟨fun qc_1 => ?_, fun qc_1 => ?_⟩
      · have hK0 : 0 < K 0 := by rw [hD.2.2.1.1]; exact hto
        refine ⟨hmg.s.o, _, c_Mo_mostWorth hmg hK0, ?_⟩
        rintro x5_q m6_q ⟨i5_q, f6_q⟩
        have hM6 : MS kd m6_q := hmg.s.fr (f6_q 78 (by decide) (by decide))
        try simp only [hM6.r0, hM6.r2]
        refine ⟨hM_q.o, hM_q.o, _, c_Mo_moves hM_q.k81 hM_q.k79 (by omega) (by omega) (Or.inl (by decide)), ?_⟩
        rintro m9_q ⟨f9_q, a9, b9⟩
        refine ⟨⟨K, hD.2.1, ⟨hD.2.2.1, fun x y x0_q x1_q y0 y1 => ?_, hU.2⟩, i5_q⟩, ?_⟩
        · have w := hU.1 x y x0_q x1_q y0 y1
          exact ⟨fun z => w.1 ⟨z, by omega⟩, fun z => w.2 (fun z2 => z z2.1)⟩
        · have e79 : m9_q 79 = m 79 := by
            funext q
            rcases (show (0 ≤ q ∧ q < 829) ∨ (q < 0 ∨ 829 ≤ q) by omega) with k | k
            · have z := a9 q k.1 k.2
              rw [show 829 * 0 + q = q by omega] at z
              rw [z, f6_q 81 (by decide) (by decide), hD.2.2.2 81 (by decide)]
              exact h81 q k.1 k.2
            · rw [b9 q (by omega), f6_q 79 (by decide) (by decide)]
              exact hO q k
          have ec : ∀ c, c ≠ 79 → c ≠ 81 → c ≠ 86 → c ≠ 88 → m9_q c = m c := fun c qc_1 qc_2 qc_3 qc_4 => by rw [f9_q c qc_1, f6_q c qc_3 qc_4, hD.2.2.2 c qc_1, hfx c qc_2]
          refine ⟨fun c hc_q => ?_, fun k _ => by rw [ec 78 (by decide) (by decide) (by decide) (by decide)]⟩
          rcases (show c = 79 ∨ c ≠ 79 by omega) with q | q
          · rw [q, e79]
          · exact ec c q (by omega) (by omega) (by omega)
      · exact qL1 0 mm K (by omega) ⟨⟨by decide, by omega⟩, hD, hO, wzU_e hU (fun x y x0_q x1_q y0 y1 => by omega)⟩)
    exact qL0 0 mx G (by omega) ⟨by decide, DM.rf hx, fun q _ => by rw [hfx 79 (by decide)], fun x y x0_q x1_q y0 y1 => ⟨fun z => absurd z.2 (by omega), fun _ => rfl⟩, fun _ _ _ _ => rfl⟩
  refine S_Mo_mostWithout ?_
  try simp only [hM0.r0, hM0.r2]
  refine ⟨hM0.o, hM0.o, _, c_Mo_moves hM0.k79 hM0.k81 (by omega) (by omega) (Or.inl (by decide)), ?_⟩
  rintro m3_q ⟨f3_q, a3, b3⟩
  exact key m3_q f3_q (fun i i0_q i1_q => by
    have z := a3 i i0_q i1_q
    rw [show 829 * 0 + i = i by omega] at z
    exact z)
theorem isWz_e {G K : GR} {Z Y : Int → Int → Prop} (h : isWz G Z K) (e : ∀ x y, 0 ≤ x → x < G 0 → 0 ≤ y → y < G 1 → (Z x y ↔ Y x y)) : isWz G Y K := ⟨h.1, fun x y x0_q x1_q y0 y1 => ⟨fun z => (h.2.1 x y x0_q x1_q y0 y1).1 ((e x y x0_q x1_q y0 y1).2 z), fun z => (h.2.1 x y x0_q x1_q y0 y1).2 (fun z2 => z ((e x y x0_q x1_q y0 y1).1 z2))⟩, h.2.2⟩
