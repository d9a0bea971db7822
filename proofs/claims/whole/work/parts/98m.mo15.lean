/-! THE MODEL, fifteenth: mix, draw -/
theorem MJ.pre {kd : ZK} {m m1_q m2_q : ZM} {st : ST} (h : MJ kd m1_q m2_q st) (k : MF m m1_q) : MJ kd m m2_q st := ⟨h.1, fun c hc_q => by rw [h.2 c hc_q, k.1 c (by omega)]⟩
theorem c_Mo_mix {d : Nat} {kd : ZK} {m : ZM} {G : GR} {P : Int → GR} {s : Int} {S : Int → GR} {u : Int} {T : Int → Int} {n : Int} (hB_q : MB kd m G P s S u T n) (hS_q : SO G s u T n) {y z k : Int} (hz1 : zin32 y) (hz2 : zin32 z) : CtI (d + 4) M_Mo_mix [(2, 78), (0, y), (0, z), (0, k)] kd m (fun zz m1_q => zz = (fMix (G, P, s, S, u, T, n) y z k).1 ∧ MJ kd m m1_q (fMix (G, P, s, S, u, T, n) y z k).2) := by
  have h : MG kd m G := hB_q.g hS_q.1
  have r0 := h.s.r0
  have r1_q := h.s.r1
  have r2 := h.s.r2
  have r3 := h.s.r3
  have r4 := h.s.r4
  have r5_q := h.s.r5
  have r7 := h.s.r7
  have r12 := h.s.r12
  have r13 := h.s.r13
  have r15 := h.s.r15
  have r17 := h.s.r17
  have r18 := h.s.r18
  have r19 := h.s.r19
  have r20 := h.s.r20
  have r21 := h.s.r21
  have r22 := h.s.r22
  have hok := h.ok.1
  have hq0 : nQ G 0 = G 0 := rfl
  have hq1 : nQ G 1 = G 1 := rfl
  have ha0 : nA G 0 = G 2 := rfl
  have ha1 : nA G 1 = G 3 := rfl
  have key2 : ∀ (mx my : ZM), MF m mx → KP kd mx my G P s S u T n → (∀ q, 0 ≤ q → q < nQ G 0 → mx 86 q = drow G 0 y q) → (∀ q, 0 ≤ q → q < nQ G 1 → mx 87 q = drow G 1 z q) → (isNum G 0 y ∧ isNum G 1 z) → 1 ≤ k → k ≤ 12 → mxOk G (drow G 0 y) (drow G 1 z) k → Ev (d + 4) M_Mo_mix 0 0 109 [(2, 78), zJ, zJ, (0, k), (0, 0), zJ] [] kd my (zqI kd (fun zz m1_q => zz = (fMix (G, P, s, S, u, T, n) y z k).1 ∧ MJ kd m m1_q (fMix (G, P, s, S, u, T, n) y z k).2)) := by
    intro mx my hF h3 hrx hsx hnn hk1 hk2 hB0
    have hM_q := h3.1.1
    have ho := hS_q.1
    have hr : isRw G 0 (drow G 0 y) := hnn.1.rw (fun q q1_q q2_q => rfl)
    have hs : isRw G 1 (drow G 1 z) := hnn.2.rw (fun q q1_q q2_q => rfl)
    have qL0 := zfor2 (G 0) (fun (x : Int) (mm : ZM) (H : GR) => Ev (d + 4) M_Mo_mix 0 0 109 [(2, 78), zJ, zJ, (0, k), (0, x), zJ] [] kd mm (zqI kd (fun zz m1_q => zz = (fMix (G, P, s, S, u, T, n) y z k).1 ∧ MJ kd m m1_q (fMix (G, P, s, S, u, T, n) y z k).2))) (fun (x : Int) (mm : ZM) (H : GR) => 0 ≤ x ∧ DM my G mm H ∧ H = zfold x.toNat (fun x H => zfold (G 1).toNat (fun y' K => gup K (429 + zS 0 x y' ((drow G 0 y) x) ((drow G 1 z) y')) (K (429 + zS 0 x y' ((drow G 0 y) x) ((drow G 1 z) y')) + k)) H) G ∧ mxU G H (drow G 0 y) (drow G 1 z) x 0) (by
      intro x mm H hb_q hI0 qKL0
      obtain ⟨hx0, hD0, hH, hU⟩ := hI0
      have s0_q := (hD0.sq 0).1
      have qL1 := zfor2 (G 1) (fun (w : Int) (mm : ZM) (K : GR) => Ev (d + 4) M_Mo_mix 0 0 122 [(2, 78), zJ, zJ, (0, k), (0, x), (0, w)] [] kd mm (zqI kd (fun zz m1_q => zz = (fMix (G, P, s, S, u, T, n) y z k).1 ∧ MJ kd m m1_q (fMix (G, P, s, S, u, T, n) y z k).2))) (fun (w : Int) (mm : ZM) (K : GR) => 0 ≤ w ∧ x < G 0 ∧ DM my G mm K ∧ K = zfold w.toNat (fun y' K => gup K (429 + zS 0 x y' ((drow G 0 y) x) ((drow G 1 z) y')) (K (429 + zS 0 x y' ((drow G 0 y) x) ((drow G 1 z) y')) + k)) H ∧ mxU G K (drow G 0 y) (drow G 1 z) x w) (by
        intro w mm K hb_q hI1 qKL1
        obtain ⟨hw0, hxl, hD1, hK_q, hU1⟩ := hI1
        have hMm : MS kd mm := (hD1.mg hM_q).s
        have s1_q := (hD1.sq 1).1
        have ex : mm 86 x = (drow G 0 y) x := by rw [hD1.2.2.2 86 (by decide), h3.2.1 86 (by decide) (by decide)]; exact hrx x hx0 hxl
        have r1_q := hr x hx0 hxl
        rw [ha0] at r1_q
        refine T_Mo_mix_122 ?_
        try simp only [hMm.r0, hMm.r12, hMm.r13, ex]
        refine ⟨hMm.o, _, c_Mo_questions (hD1.mg hM_q) (Or.inr rfl), ?_⟩
        rintro _ _ ⟨rfl, rfl⟩
        rw [s1_q, hq1]
        try simp only [hMm.r0, hMm.r12, hMm.r13, ex]
        refine ⟨fun qc_1 => ?_, fun qc_1 => ?_⟩
        · rw [iw_s (x := x + 1) (by omega) (by omega)]
          exact qKL0 mm K (by omega) ⟨by omega, hD1, by rw [zfold_1 hx0, ← hH, hK_q, show w = G 1 by omega], fun u1_q w1_q a1_q a2 a3 a4 hh => hU1 u1_q w1_q a1_q a2 a3 a4 (by omega)⟩
        · have hwl : w < G 1 := by omega
          have ey : mm 87 w = (drow G 1 z) w := by rw [hD1.2.2.2 87 (by decide), h3.2.1 87 (by decide) (by decide)]; exact hsx w hw0 hwl
          have r2 := hs w hw0 hwl
          rw [ha1] at r2
          have ez : zS 0 x w ((drow G 0 y) x) ((drow G 1 z) w) = 4 * (4 * (5 * x + w) + (drow G 0 y) x) + (drow G 1 z) w := by rw [zS_v, if_pos rfl]
          have zin := zS_in (p := 0) (x := x) (y := w) (a := (drow G 0 y) x) (b := (drow G 1 z) w) (by omega) (by omega) (by omega) (by omega)
          try simp only [ey]
          refine ⟨hMm.o, hMm.o, ⟨5, hMm.k86, by omega, by omega⟩, hMm.o, ⟨5, hMm.k87, by omega, by omega⟩, _, c_Mo_fourOf (by omega) (by omega) (by omega) (by omega), ?_⟩
          rintro _ _ ⟨rfl, rfl⟩
          try simp only [hMm.r0]
          rw [← ez, iw_s (x := 429 + zS 0 x w ((drow G 0 y) x) ((drow G 1 z) w)) (by omega) (by omega)]
          have rd := (hD1.rd (p := 0) (Or.inl rfl) ⟨hx0, hxl⟩ ⟨hw0, hwl⟩ ⟨r1_q.1, r1_q.2⟩ ⟨r2.1, r2.2⟩).2
          have hu := hU1 x w hx0 hxl hw0 hwl (by omega)
          have hbb := hB0 x w hx0 hxl hw0 hwl
          have pb := (pVB_at ho (p := 0) (Or.inl rfl) ⟨hx0, hxl⟩ ⟨hw0, hwl⟩ ⟨r1_q.1, r1_q.2⟩ ⟨r2.1, r2.2⟩).2
          rw [show pB G 0 x w ((drow G 0 y) x) ((drow G 1 z) w) = gB G x w ((drow G 0 y) x) ((drow G 1 z) w) from rfl] at pb
          refine ⟨⟨829, hMm.k79, by omega, by omega⟩, ⟨829, hMm.k79, by omega, by omega⟩, ?_⟩
          rw [iw_s (x := w + 1) (by omega) (by omega), rd.1, iw_s (x := K (429 + zS 0 x w ((drow G 0 y) x) ((drow G 1 z) w)) + k) (by omega) (by omega)]
          exact qKL1 _ _ (by omega) ⟨by omega, hxl, hD1.putB (p := 0) (Or.inl rfl) ⟨hx0, hxl⟩ ⟨hw0, hwl⟩ ⟨r1_q.1, r1_q.2⟩ ⟨r2.1, r2.2⟩ (by omega), by rw [zfold_1 hw0, ← hK_q], mxU_1 ho hr hs ⟨hx0, hxl⟩ ⟨hw0, hwl⟩ hU1⟩)
      have hMm : MS kd mm := (hD0.mg hM_q).s
      refine T_Mo_mix_109 ?_
      refine ⟨hMm.o, _, c_Mo_questions (hD0.mg hM_q) (Or.inl rfl), ?_⟩
      rintro _ _ ⟨rfl, rfl⟩
      rw [s0_q, hq0]
      refine ⟨fun qc_1 => ?_, fun qc_1 => ?_⟩
      · rw [show x = G 0 by omega] at hH
        rw [hH] at hD0
        simp only [fMix]
        rw [zif_t hnn, zif_f (show ¬ k < 1 by omega), zif_t hk2, zif_t hB0]
        exact ⟨rfl, (h3.dm hD0).pre hF⟩
      · exact qL1 0 _ H (by omega) ⟨by decide, by omega, hD0, rfl, hU⟩)
    exact qL0 0 my G (by omega) ⟨by decide, DM.rf (h3.1.g hS_q.1), rfl, fun _ _ _ _ _ _ _ => rfl⟩
  have key : ∀ (mx : ZM), MF m mx → (∀ q, 0 ≤ q → q < nQ G 0 → mx 86 q = drow G 0 y q) → (∀ q, 0 ≤ q → q < nQ G 1 → mx 87 q = drow G 1 z q) → (isNum G 0 y ∧ isNum G 1 z) → 1 ≤ k → k ≤ 12 → Ev (d + 4) M_Mo_mix 0 0 35 [(2, 78), zJ, zJ, (0, k), (0, 0), zJ] [] kd mx (zqI kd (fun zz m1_q => zz = (fMix (G, P, s, S, u, T, n) y z k).1 ∧ MJ kd m m1_q (fMix (G, P, s, S, u, T, n) y z k).2)) := by
    intro mx hF hrx hsx hnn hk1 hk2
    have hBx : MB kd mx G P s S u T n := hB_q.mf hF
    have hx : MG kd mx G := hBx.g hS_q.1
    have hM_q := hx.s
    have hr : isRw G 0 (drow G 0 y) := hnn.1.rw (fun q q1_q q2_q => rfl)
    have hs : isRw G 1 (drow G 1 z) := hnn.2.rw (fun q q1_q q2_q => rfl)
    have qL0 := zfor0 (G 0) (fun (i : Int) => Ev (d + 4) M_Mo_mix 0 0 35 [(2, 78), zJ, zJ, (0, k), (0, i), zJ] [] kd mx (zqI kd (fun zz m1_q => zz = (fMix (G, P, s, S, u, T, n) y z k).1 ∧ MJ kd m m1_q (fMix (G, P, s, S, u, T, n) y z k).2))) (fun (i : Int) => 0 ≤ i ∧ ∀ a b, 0 ≤ a → 0 ≤ b → b < G 1 → a < i → gB G a b ((drow G 0 y) a) ((drow G 1 z) b) + k ≤ 12) (by
      intro i hb_q hI0 qKL0
      obtain ⟨hi_, hX⟩ := hI0
      have qL1 := zfor0 (G 1) (fun (j : Int) => Ev (d + 4) M_Mo_mix 0 0 48 [(2, 78), zJ, zJ, (0, k), (0, i), (0, j)] [] kd mx (zqI kd (fun zz m1_q => zz = (fMix (G, P, s, S, u, T, n) y z k).1 ∧ MJ kd m m1_q (fMix (G, P, s, S, u, T, n) y z k).2))) (fun (j : Int) => (0 ≤ j ∧ i < G 0) ∧ ∀ a b, 0 ≤ a → 0 ≤ b → b < G 1 → (a < i ∨ a = i ∧ b < j) → gB G a b ((drow G 0 y) a) ((drow G 1 z) b) + k ≤ 12) (by
        intro j hb_q hI1 qKL1
        obtain ⟨⟨hj0, hil⟩, hY⟩ := hI1
        have ex : mx 86 i = (drow G 0 y) i := hrx i hi_ hil
        have r1_q := hr i hi_ hil
        rw [ha0] at r1_q
        refine T_Mo_mix_48 ?_
        refine ⟨hM_q.o, _, c_Mo_questions hx (Or.inr rfl), ?_⟩
        rintro _ _ ⟨rfl, rfl⟩
        rw [hq1]
        try simp only [hM_q.r12, hM_q.r13, ex]
        refine ⟨fun qc_1 => ?_, fun qc_1 => ?_⟩
        · rw [iw_s (x := i + 1) (by omega) (by omega)]
          exact qKL0 (by omega) ⟨by omega, fun a b a0_q b0 b1 al => hY a b a0_q b0 b1 (by omega)⟩
        · have hjl : j < G 1 := by omega
          have ey : mx 87 j = (drow G 1 z) j := hsx j hj0 hjl
          have r2 := hs j hj0 hjl
          rw [ha1] at r2
          have hgb := hS_q.1.gB i j ((drow G 0 y) i) ((drow G 1 z) j)
          try simp only [ey]
          refine ⟨hM_q.o, ⟨5, hM_q.k86, by omega, by omega⟩, hM_q.o, ⟨5, hM_q.k87, by omega, by omega⟩, hM_q.o, _, c_Mo_boxOf hx (by omega) (by omega) (by omega) (by omega), ?_⟩
          rintro _ _ ⟨rfl, rfl⟩
          rw [iw_s (x := gB G i j ((drow G 0 y) i) ((drow G 1 z) j) + k) (by omega) (by omega)]
          refine ⟨fun qc_2 => ?_, fun qc_2 => ?_⟩
          · rw [iw_s (x := j + 1) (by omega) (by omega)]
            refine qKL1 (by omega) ⟨⟨by omega, hil⟩, fun a b a0_q b0 b1 al => ?_⟩
            rcases (show (a < i ∨ a = i ∧ b < j) ∨ (a = i ∧ b = j) by omega) with q | q
            · exact hY a b a0_q b0 b1 q
            · rw [q.1, q.2]; exact qc_2
          · simp only [fMix]
            rw [zif_t hnn, zif_f (show ¬ k < 1 by omega), zif_t hk2, zif_f (fun z => qc_2 (z i j hi_ hil hj0 hjl))]
            exact ⟨rfl, MJ.mf hB_q hF⟩)
      refine T_Mo_mix_35 ?_
      refine ⟨hM_q.o, _, c_Mo_questions hx (Or.inl rfl), ?_⟩
      rintro _ _ ⟨rfl, rfl⟩
      rw [hq0]
      refine ⟨fun qc_1 => ?_, fun qc_1 => ?_⟩
      · refine ⟨hM_q.o, _, c_Mo_keepsPast hBx hS_q.2.1, ?_⟩
        rintro m6_q h3
        exact key2 mx m6_q hF h3 hrx hsx hnn hk1 hk2 (fun a b a0_q a1_q b0 b1 => hX a b a0_q b0 b1 (by omega))
      · exact qL1 0 (by omega) ⟨⟨by decide, by omega⟩, fun a b a0_q b0 b1 al => hX a b a0_q b0 b1 (by omega)⟩)
    exact qL0 0 (by omega) ⟨by decide, fun a b a0_q b0 b1 al => absurd al (by omega)⟩
  refine S_Mo_mix ?_
  try simp only [r0, r1_q, r2, r3, r4, r5_q, r7, r12, r13, r15, r17, r18, r19, r20, r21, r22]
  refine ⟨h.s.o, _, c_Mo_lays h (Or.inl rfl) hz1, ?_⟩
  rintro x2_q m3_q ⟨i3_q, f3_q, e3_q⟩
  subst i3_q
  have F3 : MF m m3_q := MF.of (fun c hc_q => f3_q c (by rw [rM0]; omega))
  have hm3 : MG kd m3_q G := h.mf F3
  refine ⟨fun qc_1 => ?_, fun qc_1 => ?_⟩
  · replace qc_1 := zb_eq0.1 qc_1
    simp only [fMix]
    rw [zif_f (fun z => qc_1 z.1)]
    exact ⟨rfl, MJ.mf hB_q F3⟩
  · replace qc_1 := zb_ne0.1 qc_1
    refine ⟨h.s.o, _, c_Mo_lays hm3 (Or.inr rfl) hz2, ?_⟩
    rintro x5_q m6_q ⟨i6_q, f6_q, e6_q⟩
    subst i6_q
    have F6 : MF m m6_q := F3.tr (MF.of (fun c hc_q => f6_q c (by rw [rM1]; omega)))
    have hm6 : MG kd m6_q G := h.mf F6
    refine ⟨fun qc_2 => ?_, fun qc_2 => ?_⟩
    · replace qc_2 := zb_eq0.1 qc_2
      simp only [fMix]
      rw [zif_f (fun z => qc_2 z.2)]
      exact ⟨rfl, MJ.mf hB_q F6⟩
    · replace qc_2 := zb_ne0.1 qc_2
      have hto : 0 < G 0 := qc_1.1.1
      have g6 : ∀ q, 0 ≤ q → q < nQ G 0 → m6_q 86 q = drow G 0 y q := fun q q1_q q2_q => by rw [f6_q 86 (by decide)]; exact e3_q qc_1 q q1_q q2_q
      have k6_q : ∀ q, 0 ≤ q → q < nQ G 1 → m6_q 87 q = drow G 1 z q := fun q q1_q q2_q => e6_q qc_2 q q1_q q2_q
      have hr1 : isRw G 0 (m6_q 86) := qc_1.rw g6
      have hr2 : isRw G 1 (m6_q 87) := qc_2.rw k6_q
      refine ⟨_, c_Mo_in, ?_⟩
      rintro _ _ ⟨rfl, rfl⟩
      try simp only [r0, r1_q, r2, r3, r4, r5_q, r7, r12, r13, r15, r17, r18, r19, r20, r21, r22]
      refine ⟨fun qc_3 => ?_, fun qc_3 => ?_⟩
      · replace qc_3 := zb_ne0.1 qc_3
        exact key _ F6 g6 k6_q ⟨qc_1, qc_2⟩ qc_3.1 qc_3.2
      · replace qc_3 := zb_eq0.1 (Classical.not_not.1 qc_3)
        simp only [fMix]
        rw [zif_t ⟨qc_1, qc_2⟩]
        rcases (show k < 1 ∨ (¬ k < 1 ∧ ¬ k ≤ 12) by omega) with e | e
        · rw [zif_t e]; exact ⟨rfl, MJ.mf hB_q F6⟩
        · rw [zif_f e.1, zif_f e.2]; exact ⟨rfl, MJ.mf hB_q F6⟩
def DS (m : ZM) (G : GR) (mm : ZM) (K : GR) (sd : Int) : Prop := (∀ i, 0 ≤ i → i < 829 → mm 79 i = K i) ∧ GOK K ∧ (K 0 = G 0 ∧ K 1 = G 1 ∧ K 2 = G 2 ∧ K 3 = G 3) ∧ (∀ c, c ≠ 79 → c ≠ 78 → mm c = m c) ∧ (∀ k, k ≠ 14 → mm 78 k = m 78 k) ∧ mm 78 14 = sd
theorem DS.mg {kd : ZK} {m mm : ZM} {G K : GR} {sd : Int} (h : DS m G mm K sd) (hs : MS kd m) : MG kd mm K := by
  refine ⟨⟨hs.1, ?_⟩, h.1, h.2.1⟩
  have k := h.2.2.2.2.1
  unfold MR
  rw [k 0 (by decide), k 1 (by decide), k 2 (by decide), k 3 (by decide), k 4 (by decide), k 5 (by decide), k 7 (by decide), k 12 (by decide), k 13 (by decide), k 15 (by decide), k 17 (by decide), k 18 (by decide), k 19 (by decide), k 20 (by decide), k 21 (by decide), k 22 (by decide)]
  exact hs.2
theorem DS.sq {m mm : ZM} {G K : GR} {sd : Int} (h : DS m G mm K sd) (p : Int) : nQ K p = nQ G p ∧ nA K p = nA G p := by
  unfold nQ nA
  rw [h.2.2.1.1, h.2.2.1.2.1, h.2.2.1.2.2.1, h.2.2.1.2.2.2]
  exact ⟨rfl, rfl⟩
theorem DS.put {m mm : ZM} {G K : GR} {sd k v : Int} (h : DS m G mm K sd) (hk : 4 ≤ k) (ho : GOK (gup K k v)) : DS m G (zup mm 79 k v) (gup K k v) sd := by
  refine ⟨fun i i0_q i1_q => ?_, ho, gup_sz hk h.2.2.1, fun c hc_q qc_2 => by rw [zup_off hc_q]; exact h.2.2.2.1 c hc_q qc_2, fun j hj => by rw [zup_off (by decide)]; exact h.2.2.2.2.1 j hj, by rw [zup_off (by decide)]; exact h.2.2.2.2.2⟩
  rw [zup_at]
  rcases Classical.em (i = k) with q | q
  · rw [q, gup_at, gup_at]
  · rw [gup_off q, gup_off q]; exact h.1 i i0_q i1_q
theorem DS.nx {m mm : ZM} {G K : GR} {sd v : Int} (h : DS m G mm K sd) : DS m G (zup mm 78 14 v) K v := ⟨fun i i0_q i1_q => by rw [zup_off (by decide)]; exact h.1 i i0_q i1_q, h.2.1, h.2.2.1, fun c qc_1 qc_2 => by rw [zup_off qc_2]; exact h.2.2.2.1 c qc_1 qc_2, fun k hk => by rw [zup_nj hk]; exact h.2.2.2.2.1 k hk, zup_self⟩
theorem DS.putV {m mm : ZM} {G K : GR} {sd x y a b v : Int} (h : DS m G mm K sd) (hx : 0 ≤ x ∧ x < G 0) (hy : 0 ≤ y ∧ y < G 1) (ha_q : 0 ≤ a ∧ a < G 2) (hb_q : 0 ≤ b ∧ b < G 3) (hv : 0 ≤ v ∧ v ≤ 1) : DS m G (zup mm 79 (29 + zS 0 x y a b) v) (gup K (29 + zS 0 x y a b) v) sd := by
  have z := h.2.2.1
  have b1 := h.2.1.1
  have zi := zS_in (p := 0) (x := x) (y := y) (a := a) (b := b) (by omega) (by omega) (by omega) (by omega)
  exact h.put (by omega) (h.2.1.gupVp (p := 0) (Or.inl rfl) (show 0 ≤ x ∧ x < K 0 by omega) (show 0 ≤ y ∧ y < K 1 by omega) (show 0 ≤ a ∧ a < K 2 by omega) (show 0 ≤ b ∧ b < K 3 by omega) hv)
theorem DS.putW {m mm : ZM} {G K : GR} {sd x y v : Int} (h : DS m G mm K sd) (hx : 0 ≤ x ∧ x < G 0) (hy : 0 ≤ y ∧ y < G 1) (hv : 0 ≤ v ∧ v ≤ 9) : DS m G (zup mm 79 (4 + zC 0 x y) v) (gup K (4 + zC 0 x y) v) sd := by
  have z := h.2.2.1
  have b1 := h.2.1.1
  have zi := zC_in (p := 0) (x := x) (y := y) (by omega) (by omega)
  exact h.put (by omega) (h.2.1.gupWp (p := 0) (Or.inl rfl) (show 0 ≤ x ∧ x < K 0 by omega) (show 0 ≤ y ∧ y < K 1 by omega) hv)
theorem KP.ds {kd : ZK} {m m1_q mm : ZM} {G K : GR} {P : Int → GR} {s : Int} {S : Int → GR} {u : Int} {T : Int → Int} {n sd : Int} (h : KP kd m m1_q G P s S u T n) (k : DS m1_q G mm K sd) : MJ kd m mm (acted (G, P, s, S, u, T, n) K) := by
  refine ⟨?_, fun c hc_q => by rw [k.2.2.2.1 c (by omega) (by omega), h.2.1 c (by omega) (by omega)]⟩
  show MB kd mm K (pushP P s G) (zmin (s + 1) 10) S u T n
  unfold MB
  rw [k.2.2.2.1 82 (by decide) (by decide), k.2.2.2.1 83 (by decide) (by decide), k.2.2.2.1 84 (by decide) (by decide), k.2.2.2.1 85 (by decide) (by decide), k.2.2.2.2.1 6 (by decide), k.2.2.2.2.1 8 (by decide)]
  exact ⟨(k.mg h.1.1).s, k.1, h.1.2.2⟩
theorem c_Mo_draws {d : Nat} {kd : ZK} {m : ZM} {b : Int} (h : MS kd m) (hb_q : b ≠ 0) : CtI (d + 1) M_Mo_draws [(2, 78), (0, b)] kd m (fun x m1_q => x = Int.tmod (zushr (nst (m 78 14)) 16) b ∧ m1_q = zup m 78 14 (nst (m 78 14))) := by
  refine S_Mo_draws ⟨h.o, h.o, h.o, hb_q, ?_⟩
  rw [zup_self]
  exact ⟨rfl, rfl⟩
theorem c_Mo_draw {d : Nat} {kd : ZK} {m : ZM} {G : GR} {P : Int → GR} {s : Int} {S : Int → GR} {u : Int} {T : Int → Int} {n : Int} (hB_q : MB kd m G P s S u T n) (hS_q : SO G s u T n) {k : Int} : CtI (d + 3) M_Mo_draw [(2, 78), (0, k)] kd m (fun zz m1_q => zz = (fDraw (G, P, s, S, u, T, n) k).1 ∧ MJ kd m m1_q (fDraw (G, P, s, S, u, T, n) k).2) := by
  have h : MG kd m G := hB_q.g hS_q.1
  have r0 := h.s.r0
  have r1_q := h.s.r1
  have r2 := h.s.r2
  have r3 := h.s.r3
  have r4 := h.s.r4
  have r5_q := h.s.r5
  have r7 := h.s.r7
  have r12 := h.s.r12
  have r13 := h.s.r13
  have r15 := h.s.r15
  have r17 := h.s.r17
  have r18 := h.s.r18
  have r19 := h.s.r19
  have r20 := h.s.r20
  have r21 := h.s.r21
  have r22 := h.s.r22
  have hok := h.ok.1
  have hq0 : nQ G 0 = G 0 := rfl
  have hq1 : nQ G 1 = G 1 := rfl
  have ha0 : nA G 0 = G 2 := rfl
  have ha1 : nA G 1 = G 3 := rfl
  have key : ∀ (mx my : ZM), KP kd m mx G P s S u T n → (0 < G 0) → DS mx G my G k → Ev (d + 3) M_Mo_draw 0 0 20 [(2, 78), zJ, (0, 0), zJ, zJ, zJ] [] kd my (zqI kd (fun zz m1_q => zz = (fDraw (G, P, s, S, u, T, n) k).1 ∧ MJ kd m m1_q (fDraw (G, P, s, S, u, T, n) k).2)) := by
    intro mx my h3 hto hDy
    have hM_q := h3.1.1
    have qL0 := zfor2 (G 0) (fun (x : Int) (mm : ZM) (f : Int × GR) => Ev (d + 3) M_Mo_draw 0 0 20 [(2, 78), zJ, (0, x), zJ, zJ, zJ] [] kd mm (zqI kd (fun zz m1_q => zz = (fDraw (G, P, s, S, u, T, n) k).1 ∧ MJ kd m m1_q (fDraw (G, P, s, S, u, T, n) k).2))) (fun (x : Int) (mm : ZM) (f : Int × GR) => 0 ≤ x ∧ DS mx G mm f.2 f.1 ∧ f = zfold x.toNat (fun x p => opD1 G x p) (k, G)) (by
      intro x mm f hb_q hI0 qKL0
      obtain ⟨hx0, hD0, hf0⟩ := hI0
      have qL1 := zfor2 (G 1) (fun (y : Int) (mm : ZM) (g : Int × GR) => Ev (d + 3) M_Mo_draw 0 0 31 [(2, 78), zJ, (0, x), (0, y), zJ, zJ] [] kd mm (zqI kd (fun zz m1_q => zz = (fDraw (G, P, s, S, u, T, n) k).1 ∧ MJ kd m m1_q (fDraw (G, P, s, S, u, T, n) k).2))) (fun (y : Int) (mm : ZM) (g : Int × GR) => (0 ≤ y ∧ x < G 0) ∧ DS mx G mm g.2 g.1 ∧ g = zfold y.toNat (fun y p => opD2 G x y p) f) (by
        intro y mm g hb_q hI1 qKL1
        obtain ⟨⟨hy0, hxl⟩, hD1, hg1⟩ := hI1
        have qL2 := zfor2 (G 2) (fun (a : Int) (mm : ZM) (e : Int × GR) => Ev (d + 3) M_Mo_draw 0 0 62 [(2, 78), zJ, (0, x), (0, y), (0, a), zJ] [] kd mm (zqI kd (fun zz m1_q => zz = (fDraw (G, P, s, S, u, T, n) k).1 ∧ MJ kd m m1_q (fDraw (G, P, s, S, u, T, n) k).2))) (fun (a : Int) (mm : ZM) (e : Int × GR) => (0 ≤ a ∧ y < G 1) ∧ DS mx G mm e.2 e.1 ∧ e = zfold a.toNat (fun a p => opD3 G x y a p) (nst g.1, gup g.2 (4 + zC 0 x y) (dW (nst g.1)))) (by
          intro a mm e hb_q hI2 qKL2
          obtain ⟨⟨ha_, hyl⟩, hD2, he2⟩ := hI2
          have qL3 := zfor2 (G 3) (fun (b : Int) (mm : ZM) (l : Int × GR) => Ev (d + 3) M_Mo_draw 0 0 75 [(2, 78), zJ, (0, x), (0, y), (0, a), (0, b)] [] kd mm (zqI kd (fun zz m1_q => zz = (fDraw (G, P, s, S, u, T, n) k).1 ∧ MJ kd m m1_q (fDraw (G, P, s, S, u, T, n) k).2))) (fun (b : Int) (mm : ZM) (l : Int × GR) => (0 ≤ b ∧ a < G 2) ∧ DS mx G mm l.2 l.1 ∧ l = zfold b.toNat (fun b p => (nst p.1, gup p.2 (29 + zS 0 x y a b) (dV (nst p.1)))) e) (by
            intro b mm l hb_q hI3 qKL3
            obtain ⟨⟨hb0, hal⟩, hD3, hl3⟩ := hI3
            have hmg := hD3.mg hM_q
            have hMm := hmg.s
            have ez : zS 0 x y a b = 4 * (4 * (5 * x + y) + a) + b := by rw [zS_v, if_pos rfl]
            refine T_Mo_draw_75 ?_
            refine ⟨hMm.o, _, c_Mo_answers hmg (Or.inr rfl), ?_⟩
            rintro _ _ ⟨rfl, rfl⟩
            rw [(hD3.sq 1).2, ha1]
            refine ⟨fun qc_1 => ?_, fun qc_1 => ?_⟩
            · rw [iw_s (x := a + 1) (by omega) (by omega)]
              exact qKL2 mm l (by omega) ⟨⟨by omega, hyl⟩, hD3, by rw [zfold_1 ha_, ← he2, hl3, show b = G 3 by omega]; rfl⟩
            · refine ⟨hMm.o, _, c_Mo_fourOf (by omega) (by omega) (by omega) (by omega), ?_⟩
              rintro _ _ ⟨rfl, rfl⟩
              refine ⟨hMm.o, _, c_Mo_draws hMm (by decide), ?_⟩
              rintro _ _ ⟨rfl, rfl⟩
              try simp only [hMm.r0]
              rw [← ez, hD3.2.2.2.2.2]
              have zi := zS_in (p := 0) (x := x) (y := y) (a := a) (b := b) (by omega) (by omega) (by omega) (by omega)
              rw [iw_s (x := 29 + zS 0 x y a b) (by omega) (by omega), iw_s (x := b + 1) (by omega) (by omega)]
              refine ⟨⟨829, hMm.k79, by omega, by omega⟩, ?_⟩
              exact qKL3 _ (nst l.1, gup l.2 (29 + zS 0 x y a b) (dV (nst l.1))) (by omega) ⟨⟨by omega, hal⟩, hD3.nx.putV ⟨hx0, hxl⟩ ⟨hy0, hyl⟩ ⟨ha_, hal⟩ ⟨hb0, by omega⟩ (dV_v _), by rw [zfold_1 hb0, ← hl3]⟩)
          have hmg := hD2.mg hM_q
          refine T_Mo_draw_62 ?_
          refine ⟨hmg.s.o, _, c_Mo_answers hmg (Or.inl rfl), ?_⟩
          rintro _ _ ⟨rfl, rfl⟩
          rw [(hD2.sq 0).2, ha0]
          refine ⟨fun qc_1 => ?_, fun qc_1 => ?_⟩
          · rw [iw_s (x := y + 1) (by omega) (by omega)]
            exact qKL1 mm e (by omega) ⟨⟨by omega, hxl⟩, hD2, by rw [zfold_1 hy0, ← hg1, he2, show a = G 2 by omega]; rfl⟩
          · exact qL3 0 mm e (by omega) ⟨⟨by decide, by omega⟩, hD2, rfl⟩)
        have hmg := hD1.mg hM_q
        have hMm := hmg.s
        refine T_Mo_draw_31 ?_
        refine ⟨hMm.o, _, c_Mo_questions hmg (Or.inr rfl), ?_⟩
        rintro _ _ ⟨rfl, rfl⟩
        rw [(hD1.sq 1).1, hq1]
        refine ⟨fun qc_1 => ?_, fun qc_1 => ?_⟩
        · rw [iw_s (x := x + 1) (by omega) (by omega)]
          exact qKL0 mm g (by omega) ⟨by omega, hD1, by rw [zfold_1 hx0, ← hf0, hg1, show y = G 1 by omega]; rfl⟩
        · refine ⟨hMm.o, _, c_Mo_twoOf (by omega) (by omega), ?_⟩
          rintro _ _ ⟨rfl, rfl⟩
          refine ⟨hMm.o, _, c_Mo_draws hMm (by decide), ?_⟩
          rintro _ _ ⟨rfl, rfl⟩
          have ez : zC 0 x y = 5 * x + y := by rw [zC_v, if_pos rfl]
          have zi := zC_in (p := 0) (x := x) (y := y) (by omega) (by omega)
          have hdw := dW_v (nst g.1)
          try simp only [hMm.r0]
          rw [← ez, hD1.2.2.2.2.2, iw_s (x := 4 + zC 0 x y) (by omega) (by omega)]
          refine ⟨⟨829, hMm.k79, by omega, by omega⟩, ?_⟩
          exact qL2 0 _ (nst g.1, gup g.2 (4 + zC 0 x y) (dW (nst g.1))) (by omega) ⟨⟨by decide, by omega⟩, hD1.nx.putW ⟨hx0, hxl⟩ ⟨hy0, by omega⟩ (show 0 ≤ dW (nst g.1) ∧ dW (nst g.1) ≤ 9 by omega), rfl⟩)
      have hmg := hD0.mg hM_q
      refine T_Mo_draw_20 ?_
      refine ⟨hmg.s.o, _, c_Mo_questions hmg (Or.inl rfl), ?_⟩
      rintro _ _ ⟨rfl, rfl⟩
      rw [(hD0.sq 0).1, hq0]
      refine ⟨fun qc_1 => ?_, fun qc_1 => ?_⟩
      · have hf : f = opDraw G k := by rw [hf0, show x = G 0 by omega]; rfl
        refine ⟨hmg.s.o, _, c_Mo_winsMany hmg, ?_⟩
        rintro _ _ ⟨rfl, rfl⟩
        simp only [fDraw]
        rw [zif_t hto, ← hf]
        exact ⟨rfl, h3.ds hD0⟩
      · exact qL1 0 mm f (by omega) ⟨⟨by decide, by omega⟩, hD0, rfl⟩)
    exact qL0 0 my (k, G) (by omega) ⟨by decide, hDy, rfl⟩
  refine S_Mo_draw ?_
  try simp only [r0, r1_q, r2, r3, r4, r5_q, r7, r12, r13, r15, r17, r18, r19, r20, r21, r22]
  refine ⟨h.s.o, _, c_Mo_hasGame h, ?_⟩
  rintro _ _ ⟨rfl, rfl⟩
  try simp only [r0, r1_q, r2, r3, r4, r5_q, r7, r12, r13, r15, r17, r18, r19, r20, r21, r22]
  refine ⟨fun qc_1 => ?_, fun qc_1 => ?_⟩
  · replace qc_1 := zb_ne0.1 qc_1
    refine ⟨h.s.o, _, c_Mo_keepsPast hB_q hS_q.2.1, ?_⟩
    rintro m6_q h3
    refine ⟨h.s.o, ?_⟩
    have h6 := h3.1.g hS_q.1
    exact key m6_q _ h3 qc_1 ⟨fun i i0_q i1_q => by rw [zup_off (by decide)]; exact h6.2.1 i i0_q i1_q, h6.ok, ⟨rfl, rfl, rfl, rfl⟩, fun c e1_q e2_q => zup_off e2_q, fun j hj => zup_nj hj, zup_self⟩
  · replace qc_1 := zb_eq0.1 (Classical.not_not.1 qc_1)
    simp only [fDraw]
    rw [zif_f qc_1]
    exact ⟨rfl, MJ.rf hB_q⟩
