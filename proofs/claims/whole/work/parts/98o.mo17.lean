/-! THE MODEL, seventeenth: swap -/
theorem mkRow {r : Int → Int} {q0 q1_q a0_q a1_q : Int} {W : Int → Int → Int} {V B : Int → Int → Int → Int → Int} (hz : r 0 = q0 ∧ r 1 = q1_q ∧ r 2 = a0_q ∧ r 3 = a1_q) (hW : ∀ x y, 0 ≤ x → x < 5 → 0 ≤ y → y < 5 → r (4 + (5 * x + y)) = cutW q0 q1_q W x y) (hV : ∀ x y a b, 0 ≤ x → x < 5 → 0 ≤ y → y < 5 → 0 ≤ a → a < 4 → 0 ≤ b → b < 4 → r (29 + (4 * (4 * (5 * x + y) + a) + b)) = cutV q0 q1_q a0_q a1_q V x y a b ∧ r (429 + (4 * (4 * (5 * x + y) + a) + b)) = cutV q0 q1_q a0_q a1_q B x y a b) {i : Int} (h0 : 0 ≤ i) (h1 : i < 829) : r i = mkG q0 q1_q a0_q a1_q W V B i := by
  unfold mkG
  rcases (show i = 0 ∨ i = 1 ∨ i = 2 ∨ i = 3 ∨ (4 ≤ i ∧ i < 29) ∨ (29 ≤ i ∧ i < 429) ∨ 429 ≤ i by omega) with q | q | q | q | q | q | q
  · rw [if_pos q, q]; exact hz.1
  · rw [if_neg (by omega), if_pos q, q]; exact hz.2.1
  · rw [if_neg (by omega), if_neg (by omega), if_pos q, q]; exact hz.2.2.1
  · rw [if_neg (by omega), if_neg (by omega), if_neg (by omega), if_pos q, q]; exact hz.2.2.2
  · rw [if_neg (by omega), if_neg (by omega), if_neg (by omega), if_neg (by omega), if_pos q.2, ← hW _ _ (by omega) (by omega) (by omega) (by omega)]
    congr 1
    omega
  · rw [if_neg (by omega), if_neg (by omega), if_neg (by omega), if_neg (by omega), if_neg (by omega), if_pos q.2, ← (hV _ _ _ _ (by omega) (by omega) (by omega) (by omega) (by omega) (by omega) (by omega) (by omega)).1]
    congr 1
    omega
  · rw [if_neg (by omega), if_neg (by omega), if_neg (by omega), if_neg (by omega), if_neg (by omega), if_neg (by omega), ← (hV _ _ _ _ (by omega) (by omega) (by omega) (by omega) (by omega) (by omega) (by omega) (by omega)).2]
    congr 1
    omega
/-- how far the places are exchanged -/
def SWI (G : GR) (r : Int → Int) (w v : Int) : Prop := (r 0 = G 1 ∧ r 1 = G 0 ∧ r 2 = G 3 ∧ r 3 = G 2) ∧ (∀ i j, 0 ≤ i → i < 5 → 0 ≤ j → j < 5 → 5 * i + j < w → r (4 + (5 * j + i)) = G (4 + (5 * i + j))) ∧ ∀ i j a b, 0 ≤ i → i < 5 → 0 ≤ j → j < 5 → 0 ≤ a → a < 4 → 0 ≤ b → b < 4 → (4 * (4 * (5 * i + j) + a) + b) < v → r (29 + (4 * (4 * (5 * j + i) + b) + a)) = G (29 + (4 * (4 * (5 * i + j) + a) + b)) ∧ r (429 + (4 * (4 * (5 * j + i) + b) + a)) = G (429 + (4 * (4 * (5 * i + j) + a) + b))
theorem SWI_W {G : GR} {r : Int → Int} {w v x y : Int} (h : SWI G r w v) (hx : 0 ≤ x ∧ x < 5) (hy : 0 ≤ y ∧ y < 5) (e : w = 5 * x + y) : SWI G (gup r (4 + (5 * y + x)) (G (4 + (5 * x + y)))) (w + 1) v := by
  refine ⟨⟨by rw [gup_off (by omega)]; exact h.1.1, by rw [gup_off (by omega)]; exact h.1.2.1, by rw [gup_off (by omega)]; exact h.1.2.2.1, by rw [gup_off (by omega)]; exact h.1.2.2.2⟩, fun i j i0_q i1_q j0 j1 hl => ?_, fun i j a b i0_q i1_q j0 j1 a0_q a1_q b0 b1 hl => ?_⟩
  · rcases (show (i = x ∧ j = y) ∨ 5 * i + j < w by omega) with q | q
    · rw [q.1, q.2, gup_at]
    · rw [gup_off (by omega)]; exact h.2.1 i j i0_q i1_q j0 j1 q
  · rw [gup_off (by omega), gup_off (by omega)]
    exact h.2.2 i j a b i0_q i1_q j0 j1 a0_q a1_q b0 b1 hl
theorem SWI_V {G : GR} {r : Int → Int} {w v x y a b : Int} (h : SWI G r w v) (hx : 0 ≤ x ∧ x < 5) (hy : 0 ≤ y ∧ y < 5) (ha_q : 0 ≤ a ∧ a < 4) (hb_q : 0 ≤ b ∧ b < 4) (e : v = (4 * (4 * (5 * x + y) + a) + b)) : SWI G (gup (gup r (29 + (4 * (4 * (5 * y + x) + b) + a)) (G (29 + (4 * (4 * (5 * x + y) + a) + b)))) (429 + (4 * (4 * (5 * y + x) + b) + a)) (G (429 + (4 * (4 * (5 * x + y) + a) + b)))) w (v + 1) := by
  refine ⟨⟨by rw [gup_off (by omega), gup_off (by omega)]; exact h.1.1, by rw [gup_off (by omega), gup_off (by omega)]; exact h.1.2.1, by rw [gup_off (by omega), gup_off (by omega)]; exact h.1.2.2.1, by rw [gup_off (by omega), gup_off (by omega)]; exact h.1.2.2.2⟩, fun i j i0_q i1_q j0 j1 hl => by rw [gup_off (by omega), gup_off (by omega)]; exact h.2.1 i j i0_q i1_q j0 j1 hl, fun i j c g i0_q i1_q j0 j1 qc_0 qc_1 g0 g1 hl => ?_⟩
  rcases (show (i = x ∧ j = y ∧ c = a ∧ g = b) ∨ 4 * (4 * (5 * i + j) + c) + g < v by omega) with q | q
  · rw [q.1, q.2.1, q.2.2.1, q.2.2.2]
    exact ⟨by rw [gup_off (by omega), gup_at], by rw [gup_at]⟩
  · have z := h.2.2 i j c g i0_q i1_q j0 j1 qc_0 qc_1 g0 g1 q
    have n1_q : 4 * (4 * (5 * j + i) + g) + c ≠ (4 * (4 * (5 * y + x) + b) + a) := fun k => by
      have k1_q : 4 * (5 * j + i) + g = 4 * (5 * y + x) + b ∧ c = a := by omega
      have k2_q : 5 * j + i = 5 * y + x ∧ g = b := by omega
      have k3_q : j = y ∧ i = x := by omega
      rw [k1_q.2, k2_q.2, k3_q.1, k3_q.2] at q
      omega
    exact ⟨by rw [gup_off (by omega), gup_off (by omega)]; exact z.1, by rw [gup_off (by omega), gup_off (by omega)]; exact z.2⟩
theorem SWI_end {G : GR} (ho : GOK G) {r : Int → Int} (h : SWI G r 25 400) {i : Int} (h0 : 0 ≤ i) (h1 : i < 829) : r i = opSwap G i := by
  have hz := ho.2.2.2
  refine mkRow h.1 (fun x y x0_q x1_q y0 y1 => ?_) (fun x y a b x0_q x1_q y0 y1 a0_q a1_q b0 b1 => ?_) h0 h1
  · rw [h.2.1 y x y0 y1 x0_q x1_q (by omega), ← gW_i (G := G) ⟨y0, y1, x0_q, x1_q⟩]
    unfold cutW
    rcases Classical.em (0 ≤ x ∧ x < G 1 ∧ 0 ≤ y ∧ y < G 0) with q | q
    · rw [zite_t q]
    · rw [zite_f q]; exact hz.1 y x (by omega)
  · have z := h.2.2 y x b a y0 y1 x0_q x1_q b0 b1 a0_q a1_q (by omega)
    rw [z.1, z.2, ← gV_i (G := G) ⟨⟨y0, y1, x0_q, x1_q⟩, b0, b1, a0_q, a1_q⟩, ← gB_i (G := G) ⟨⟨y0, y1, x0_q, x1_q⟩, b0, b1, a0_q, a1_q⟩]
    unfold cutV
    rcases Classical.em ((0 ≤ x ∧ x < G 1 ∧ 0 ≤ y ∧ y < G 0) ∧ 0 ≤ a ∧ a < G 3 ∧ 0 ≤ b ∧ b < G 2) with q | q
    · rw [zite_t q, zite_t q]; exact ⟨rfl, rfl⟩
    · rw [zite_f q, zite_f q]; exact hz.2 y x b a (by omega)
theorem c_Mo_swap {d : Nat} {kd : ZK} {m : ZM} {G : GR} {P : Int → GR} {s : Int} {S : Int → GR} {u : Int} {T : Int → Int} {n : Int} (hB_q : MB kd m G P s S u T n) (hS_q : SO G s u T n) : CtI (d + 3) M_Mo_swap [(2, 78)] kd m (fun zz m1_q => zz = (fSwap (G, P, s, S, u, T, n)).1 ∧ MJ kd m m1_q (fSwap (G, P, s, S, u, T, n)).2) := by
  have h : MG kd m G := hB_q.g hS_q.1
  have r0 := h.s.r0
  have r1_q := h.s.r1
  have r2 := h.s.r2
  have r3 := h.s.r3
  have r4 := h.s.r4
  have r5_q := h.s.r5
  have r7 := h.s.r7
  have r12 := h.s.r12
  have r13 := h.s.r13
  have r15 := h.s.r15
  have r17 := h.s.r17
  have r18 := h.s.r18
  have r19 := h.s.r19
  have r20 := h.s.r20
  have r21 := h.s.r21
  have r22 := h.s.r22
  have hok := h.ok.1
  have hq0 : nQ G 0 = G 0 := rfl
  have hq1 : nQ G 1 = G 1 := rfl
  have ha0 : nA G 0 = G 2 := rfl
  have ha1 : nA G 1 = G 3 := rfl
  have key : ∀ mx : ZM, MB kd mx G (pushP P s G) (zmin (s + 1) 10) S u T n → (∀ i, 0 ≤ i → i < 829 → mx 81 i = G i) → (∀ c, c < 78 → mx c = m c) → told G → Ev (d + 3) M_Mo_swap 0 0 28 [(2, 78), (0, 0), zJ, zJ, zJ] [] kd mx (zqI kd (fun zz m1_q => zz = (fSwap (G, P, s, S, u, T, n)).1 ∧ MJ kd m m1_q (fSwap (G, P, s, S, u, T, n)).2)) := by
    intro mx hx hG81 hf ht
    have hM_q := hx.1
    have k73 : ∀ mm : ZM, (∀ c, c ≠ 79 → mm c = mx c) → SWI G (mm 79) 0 0 → Ev (d + 3) M_Mo_swap 0 0 73 [(2, 78), (0, 0), zJ, zJ, zJ] [] kd mm (zqI kd (fun zz m1_q => zz = (fSwap (G, P, s, S, u, T, n)).1 ∧ MJ kd m m1_q (fSwap (G, P, s, S, u, T, n)).2)) := by
      intro m0_q hF0 hS0
      have qL0 := zfor1 5 (fun (x : Int) (mm : ZM) => Ev (d + 3) M_Mo_swap 0 0 73 [(2, 78), (0, x), zJ, zJ, zJ] [] kd mm (zqI kd (fun zz m1_q => zz = (fSwap (G, P, s, S, u, T, n)).1 ∧ MJ kd m m1_q (fSwap (G, P, s, S, u, T, n)).2))) (fun (x : Int) (mm : ZM) => 0 ≤ x ∧ (∀ c, c ≠ 79 → mm c = mx c) ∧ SWI G (mm 79) (5 * x) (80 * x)) (by
        intro x mm hb_q hI0 qKL0
        obtain ⟨hx0, hF, hS1⟩ := hI0
        have qL1 := zfor1 5 (fun (y : Int) (mm : ZM) => Ev (d + 3) M_Mo_swap 0 0 80 [(2, 78), (0, x), (0, y), zJ, zJ] [] kd mm (zqI kd (fun zz m1_q => zz = (fSwap (G, P, s, S, u, T, n)).1 ∧ MJ kd m m1_q (fSwap (G, P, s, S, u, T, n)).2))) (fun (y : Int) (mm : ZM) => (0 ≤ y ∧ x < 5) ∧ (∀ c, c ≠ 79 → mm c = mx c) ∧ SWI G (mm 79) (5 * x + y) (80 * x + 16 * y)) (by
          intro y mm hb_q hI1 qKL1
          obtain ⟨⟨hy0, hxl⟩, hF, hS1⟩ := hI1
          have qL2 := zfor1 4 (fun (a : Int) (mm : ZM) => Ev (d + 3) M_Mo_swap 0 0 111 [(2, 78), (0, x), (0, y), (0, a), zJ] [] kd mm (zqI kd (fun zz m1_q => zz = (fSwap (G, P, s, S, u, T, n)).1 ∧ MJ kd m m1_q (fSwap (G, P, s, S, u, T, n)).2))) (fun (a : Int) (mm : ZM) => (0 ≤ a ∧ y < 5) ∧ (∀ c, c ≠ 79 → mm c = mx c) ∧ SWI G (mm 79) (5 * x + y + 1) (80 * x + 16 * y + 4 * a)) (by
            intro a mm hb_q hI2 qKL2
            obtain ⟨⟨ha_, hyl⟩, hF, hS1⟩ := hI2
            have qL3 := zfor1 4 (fun (b : Int) (mm : ZM) => Ev (d + 3) M_Mo_swap 0 0 119 [(2, 78), (0, x), (0, y), (0, a), (0, b)] [] kd mm (zqI kd (fun zz m1_q => zz = (fSwap (G, P, s, S, u, T, n)).1 ∧ MJ kd m m1_q (fSwap (G, P, s, S, u, T, n)).2))) (fun (b : Int) (mm : ZM) => (0 ≤ b ∧ a < 4) ∧ (∀ c, c ≠ 79 → mm c = mx c) ∧ SWI G (mm 79) (5 * x + y + 1) (80 * x + 16 * y + 4 * a + b)) (by
              intro b mm hb_q hI3 qKL3
              obtain ⟨⟨hb0, hal⟩, hF, hS1⟩ := hI3
              have hMm : MS kd mm := hM_q.fr (hF 78 (by decide))
              have e81 : ∀ i, 0 ≤ i → i < 829 → mm 81 i = G i := fun i i0_q i1_q => by rw [hF 81 (by decide)]; exact hG81 i i0_q i1_q
              refine T_Mo_swap_119 ⟨fun qc_1 => ?_, fun qc_1 => ?_⟩
              · rw [iw_s (x := a + 1) (by omega) (by omega)]
                refine qKL2 mm (by omega) ⟨⟨by omega, hyl⟩, hF, ?_⟩
                rw [show 80 * x + 16 * y + 4 * (a + 1) = 80 * x + 16 * y + 4 * a + b by omega]
                exact hS1
              · have i1_q : iw (29 + (4 * (4 * (5 * x + y) + a) + b)) = 29 + (4 * (4 * (5 * x + y) + a) + b) := iw_s (by omega) (by omega)
                have i2_q : iw (29 + (4 * (4 * (5 * y + x) + b) + a)) = 29 + (4 * (4 * (5 * y + x) + b) + a) := iw_s (by omega) (by omega)
                have i3_q : iw (429 + (4 * (4 * (5 * x + y) + a) + b)) = 429 + (4 * (4 * (5 * x + y) + a) + b) := iw_s (by omega) (by omega)
                have i4_q : iw (429 + (4 * (4 * (5 * y + x) + b) + a)) = 429 + (4 * (4 * (5 * y + x) + b) + a) := iw_s (by omega) (by omega)
                refine ⟨hMm.o, _, c_Mo_fourOf (by omega) (by omega) (by omega) (by omega), ?_⟩
                rintro _ _ ⟨rfl, rfl⟩
                refine ⟨hMm.o, _, c_Mo_fourOf (by omega) (by omega) (by omega) (by omega), ?_⟩
                rintro _ _ ⟨rfl, rfl⟩
                have z78 : ∀ i v k, (zup mm 79 i v) 78 k = mm 78 k := fun i v k => by rw [zup_off (by decide)]
                have z81 : ∀ i v k, (zup mm 79 i v) 81 k = mm 81 k := fun i v k => by rw [zup_off (by decide)]
                try simp only [hMm.r0, hMm.r2, i1_q, i2_q, z78]
                refine ⟨⟨829, hMm.k81, by omega, by omega⟩, ⟨829, hMm.k79, by omega, by omega⟩, hMm.o, _, c_Mo_fourOf (by omega) (by omega) (by omega) (by omega), ?_⟩
                rintro _ _ ⟨rfl, rfl⟩
                refine ⟨hMm.o, _, c_Mo_fourOf (by omega) (by omega) (by omega) (by omega), ?_⟩
                rintro _ _ ⟨rfl, rfl⟩
                try simp only [hMm.r0, hMm.r2, i3_q, i4_q, z78, z81]
                refine ⟨⟨829, hMm.k81, by omega, by omega⟩, ⟨829, hMm.k79, by omega, by omega⟩, ?_⟩
                rw [e81 _ (by omega) (by omega), e81 _ (by omega) (by omega), iw_s (x := b + 1) (by omega) (by omega)]
                refine qKL3 _ (by omega) ⟨⟨by omega, hal⟩, fun c hc_q => by rw [zup_off hc_q, zup_off hc_q]; exact hF c hc_q, ?_⟩
                rw [zup_at, zup_at, show 80 * x + 16 * y + 4 * a + (b + 1) = 80 * x + 16 * y + 4 * a + b + 1 by omega]
                exact SWI_V hS1 ⟨hx0, hxl⟩ ⟨hy0, hyl⟩ ⟨ha_, hal⟩ ⟨hb0, by omega⟩ (by omega))
            refine T_Mo_swap_111 ⟨fun qc_1 => ?_, fun qc_1 => ?_⟩
            · rw [iw_s (x := y + 1) (by omega) (by omega)]
              refine qKL1 mm (by omega) ⟨⟨by omega, hxl⟩, hF, ?_⟩
              rw [show 5 * x + (y + 1) = 5 * x + y + 1 by omega, show 80 * x + 16 * (y + 1) = 80 * x + 16 * y + 4 * a by omega]
              exact hS1
            · refine qL3 0 mm (by omega) ⟨⟨by decide, by omega⟩, hF, ?_⟩
              rw [Int.add_zero]
              exact hS1)
          have hMm : MS kd mm := hM_q.fr (hF 78 (by decide))
          refine T_Mo_swap_80 ⟨fun qc_1 => ?_, fun qc_1 => ?_⟩
          · rw [iw_s (x := x + 1) (by omega) (by omega)]
            refine qKL0 mm (by omega) ⟨by omega, hF, ?_⟩
            rw [show 5 * (x + 1) = 5 * x + y by omega, show 80 * (x + 1) = 80 * x + 16 * y by omega]
            exact hS1
          · have i1_q : iw (4 + (5 * x + y)) = 4 + (5 * x + y) := iw_s (by omega) (by omega)
            have i2_q : iw (4 + (5 * y + x)) = 4 + (5 * y + x) := iw_s (by omega) (by omega)
            refine ⟨hMm.o, _, c_Mo_twoOf (by omega) (by omega), ?_⟩
            rintro _ _ ⟨rfl, rfl⟩
            refine ⟨hMm.o, _, c_Mo_twoOf (by omega) (by omega), ?_⟩
            rintro _ _ ⟨rfl, rfl⟩
            try simp only [hMm.r0, hMm.r2, i1_q, i2_q]
            refine ⟨⟨829, hMm.k81, by omega, by omega⟩, ⟨829, hMm.k79, by omega, by omega⟩, ?_⟩
            rw [show mm 81 (4 + (5 * x + y)) = G (4 + (5 * x + y)) by rw [hF 81 (by decide)]; exact hG81 _ (by omega) (by omega)]
            refine qL2 0 _ (by omega) ⟨⟨by decide, by omega⟩, fun c hc_q => by rw [zup_off hc_q]; exact hF c hc_q, ?_⟩
            rw [zup_at, show 80 * x + 16 * y + 4 * 0 = 80 * x + 16 * y by omega]
            exact SWI_W hS1 ⟨hx0, hxl⟩ ⟨hy0, by omega⟩ rfl)
        refine T_Mo_swap_73 ⟨fun qc_1 => ?_, fun qc_1 => ?_⟩
        · simp only [fSwap]
          rw [zif_t (show 0 < G 0 from ht)]
          rw [show 5 * x = 25 by omega, show 80 * x = 400 by omega] at hS1
          refine ⟨rfl, hx.row hF (fun i i0_q i1_q => SWI_end hS_q.1 hS1 i0_q i1_q), fun c hc_q => by rw [hF c (by omega)]; exact hf c hc_q⟩
        · refine qL1 0 mm (by omega) ⟨⟨by decide, by omega⟩, hF, ?_⟩
          rw [Int.add_zero, show 80 * x + 16 * 0 = 80 * x by omega]
          exact hS1)
      exact qL0 0 m0_q (by omega) ⟨by decide, hF0, hS0⟩
    have qL9 := zfor1 2 (fun (i : Int) (mm : ZM) => Ev (d + 3) M_Mo_swap 0 0 28 [(2, 78), (0, i), zJ, zJ, zJ] [] kd mm (zqI kd (fun zz m1_q => zz = (fSwap (G, P, s, S, u, T, n)).1 ∧ MJ kd m m1_q (fSwap (G, P, s, S, u, T, n)).2))) (fun (i : Int) (mm : ZM) => 0 ≤ i ∧ (∀ c, c ≠ 79 → mm c = mx c) ∧ (1 ≤ i → mm 79 0 = G 1 ∧ mm 79 2 = G 3) ∧ (2 ≤ i → mm 79 1 = G 0 ∧ mm 79 3 = G 2)) (by
      intro i mm hb_q hI0 qKL9
      obtain ⟨hi_, hF, hA1, hA2⟩ := hI0
      have hMm : MS kd mm := hM_q.fr (hF 78 (by decide))
      have e81 : ∀ i, 0 ≤ i → i < 829 → mm 81 i = G i := fun i i0_q i1_q => by rw [hF 81 (by decide)]; exact hG81 i i0_q i1_q
      have i1_q : iw (1 - i) = 1 - i := iw_s (by omega) (by omega)
      have i2_q : iw (0 + i) = i := by rw [Int.zero_add]; exact iw_s (by omega) (by omega)
      have i3_q : iw (3 - i) = 3 - i := iw_s (by omega) (by omega)
      have i4_q : iw (2 + i) = 2 + i := iw_s (by omega) (by omega)
      have z78 : ∀ i v k, (zup mm 79 i v) 78 k = mm 78 k := fun i v k => by rw [zup_off (by decide)]
      have z81 : ∀ i v k, (zup mm 79 i v) 81 k = mm 81 k := fun i v k => by rw [zup_off (by decide)]
      refine T_Mo_swap_28 ?_
      try simp only [hMm.r0, hMm.r2, i1_q, i2_q, i3_q, i4_q, z78, z81]
      refine ⟨fun qc_1 => ?_, fun qc_1 => ?_⟩
      · have a1_q := hA1 (by omega)
        have a2 := hA2 (by omega)
        exact k73 mm hF ⟨⟨a1_q.1, a2.1, a1_q.2, a2.2⟩, fun i j i0_q i1_q j0 j1 hl => absurd hl (by omega), fun i j a b i0_q i1_q j0 j1 a0_q a1_q b0 b1 hl => absurd hl (by omega)⟩
      · refine ⟨hMm.o, hMm.o, ⟨829, hMm.k81, by omega, by omega⟩, ⟨829, hMm.k79, by omega, by omega⟩, hMm.o, hMm.o, ⟨829, hMm.k81, by omega, by omega⟩, ⟨829, hMm.k79, by omega, by omega⟩, ?_⟩
        rw [e81 _ (by omega) (by omega), e81 _ (by omega) (by omega), iw_s (x := i + 1) (by omega) (by omega)]
        refine qKL9 _ (by omega) ⟨by omega, fun c hc_q => by rw [zup_off hc_q, zup_off hc_q]; exact hF c hc_q, fun _ => ?_, fun _ => ?_⟩
        · rw [zup_at, zup_at]
          rcases (show i = 0 ∨ i = 1 by omega) with q | q
          · rw [q]
            exact ⟨by rw [gup_off (by decide), gup_at]; rfl, by rw [show (2 : Int) + 0 = 2 from rfl, gup_at]; rfl⟩
          · have a1_q := hA1 (by omega)
            rw [q]
            exact ⟨by rw [gup_off (by decide), gup_off (by decide)]; exact a1_q.1, by rw [gup_off (by decide), gup_off (by decide)]; exact a1_q.2⟩
        · rw [zup_at, zup_at, show i = 1 by omega]
          exact ⟨by rw [gup_off (by decide), gup_at]; rfl, by rw [show (2 : Int) + 1 = 3 from rfl, gup_at]; rfl⟩)
    exact qL9 0 mx (by omega) ⟨by decide, fun _ _ => rfl, fun z => absurd z (by decide), fun z => absurd z (by decide)⟩
  refine S_Mo_swap ?_
  try simp only [r0, r1_q, r2, r3, r4, r5_q, r7, r12, r13, r15, r17, r18, r19, r20, r21, r22]
  refine ⟨h.s.o, _, c_Mo_hasGame h, ?_⟩
  rintro _ _ ⟨rfl, rfl⟩
  try simp only [r0, r1_q, r2, r3, r4, r5_q, r7, r12, r13, r15, r17, r18, r19, r20, r21, r22]
  refine ⟨fun qc_1 => ?_, fun qc_1 => ?_⟩
  · replace qc_1 := zb_ne0.1 qc_1
    refine ⟨h.s.o, _, c_Mo_keepsPast hB_q hS_q.2.1, ?_⟩
    rintro m6_q h3
    have hM_q := h3.1.1
    try simp only [hM_q.r0, hM_q.r1, hM_q.r2, hM_q.r3, hM_q.r4, hM_q.r5, hM_q.r7, hM_q.r12, hM_q.r13, hM_q.r15, hM_q.r17, hM_q.r18, hM_q.r19, hM_q.r20, hM_q.r21, hM_q.r22]
    refine ⟨h.s.o, h.s.o, ?_⟩
    refine ⟨_, c_Mo_moves hM_q.k79 hM_q.k81 (by omega) (by omega) (Or.inl (by decide)), ?_⟩
    rintro m9_q ⟨f9_q, a9, b9⟩
    refine key m9_q ?_ (fun i i0_q i1_q => ?_) (fun c hc_q => by rw [f9_q c (by omega), h3.2.1 c (by omega) (by omega)]) qc_1
    · unfold MB
      rw [f9_q 79 (by decide), f9_q 82 (by decide), f9_q 83 (by decide), f9_q 84 (by decide), f9_q 85 (by decide), f9_q 78 (by decide)]
      exact ⟨h3.1.1.fr (f9_q 78 (by decide)), h3.1.2⟩
    · have z := a9 i i0_q i1_q
      rw [show 829 * 0 + i = i by omega] at z
      rw [z]
      exact h3.1.2.1 i i0_q i1_q
  · replace qc_1 := zb_eq0.1 (Classical.not_not.1 qc_1)
    simp only [fSwap]
    rw [zif_f qc_1]
    exact ⟨rfl, MJ.rf hB_q⟩
