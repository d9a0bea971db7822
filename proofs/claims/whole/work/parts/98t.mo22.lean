/-! THE MODEL, twenty-second: without, cut -/
theorem c_Mo_without {d : Nat} {kd : ZK} {m : ZM} {G : GR} (h : MG kd m G) {p q : Int} (hv : 0 < G 1 → 0 < G 0) : CtI (d + 8) M_Mo_without [(2, 78), (0, p), (0, q)] kd m (fun x m1_q => (pWithout G p q x) ∧ MF m m1_q) := by
  have r0 := h.s.r0
  have r1_q := h.s.r1
  have r2 := h.s.r2
  have r3 := h.s.r3
  have r4 := h.s.r4
  have r5_q := h.s.r5
  have r7 := h.s.r7
  have r12 := h.s.r12
  have r13 := h.s.r13
  have r15 := h.s.r15
  have r17 := h.s.r17
  have r18 := h.s.r18
  have r19 := h.s.r19
  have r20 := h.s.r20
  have r21 := h.s.r21
  have r22 := h.s.r22
  have hok := h.ok.1
  have hq0 : nQ G 0 = G 0 := rfl
  have hq1 : nQ G 1 = G 1 := rfl
  have ha0 : nA G 0 = G 2 := rfl
  have ha1 : nA G 1 = G 3 := rfl
  refine S_Mo_without ?_
  try simp only [r0, r1_q, r2, r3, r4, r5_q, r7, r12, r13, r15, r17, r18, r19, r20, r21, r22]
  refine ⟨_, c_Mo_isPlayer, ?_⟩
  rintro _ _ ⟨rfl, rfl⟩
  try simp only [r0, r1_q, r2, r3, r4, r5_q, r7, r12, r13, r15, r17, r18, r19, r20, r21, r22]
  refine ⟨fun qc_1 => ?_, fun qc_1 => ?_⟩
  · replace qc_1 := zb_eq0.1 qc_1
    exact ⟨zcs_f (fun z => qc_1 z.1) rfl, MF.rf⟩
  · replace qc_1 := zb_ne0.1 qc_1
    refine ⟨h.s.o, _, c_Mo_isQuestion h qc_1, ?_⟩
    rintro _ _ ⟨rfl, rfl⟩
    try simp only [r0, r1_q, r2, r3, r4, r5_q, r7, r12, r13, r15, r17, r18, r19, r20, r21, r22]
    refine ⟨fun qc_2 => ?_, fun qc_2 => ?_⟩
    · replace qc_2 := zb_ne0.1 qc_2
      refine ⟨fun qc_3 => ?_, fun qc_3 => ?_⟩
      · skip
        refine ⟨h.s.o, _, c_Mo_mostWithout h (tldQ hv qc_2), ?_⟩
        rintro x8 m9_q w9
        obtain ⟨⟨K, k1_q, k2_q, k3_q⟩, F9⟩ := w9
        exact ⟨zcs_t qc_2 ⟨K, k1_q, isWz_e k2_q (fun x y x0_q x1_q y0 y1 => by have := qc_2.2; omega), k3_q⟩, F9⟩
      · skip
        refine ⟨h.s.o, _, c_Mo_mostWithout h (tldQ hv qc_2), ?_⟩
        rintro x11 m12_q w12
        obtain ⟨⟨K, k1_q, k2_q, k3_q⟩, F9⟩ := w12
        exact ⟨zcs_t qc_2 ⟨K, k1_q, isWz_e k2_q (fun x y x0_q x1_q y0 y1 => by have := qc_2.2; omega), k3_q⟩, F9⟩
    · replace qc_2 := zb_eq0.1 (Classical.not_not.1 qc_2)
      exact ⟨zcs_f qc_2 rfl, MF.rf⟩
theorem c_Mo_cut {d : Nat} {kd : ZK} {m : ZM} {G : GR} (h : MG kd m G) {y z : Int} : CtI (d + 8) M_Mo_cut [(2, 78), (0, y), (0, z)] kd m (fun x m1_q => (pCut G y z x) ∧ MF m m1_q) := by
  have r0 := h.s.r0
  have r1_q := h.s.r1
  have r2 := h.s.r2
  have r3 := h.s.r3
  have r4 := h.s.r4
  have r5_q := h.s.r5
  have r7 := h.s.r7
  have r12 := h.s.r12
  have r13 := h.s.r13
  have r15 := h.s.r15
  have r17 := h.s.r17
  have r18 := h.s.r18
  have r19 := h.s.r19
  have r20 := h.s.r20
  have r21 := h.s.r21
  have r22 := h.s.r22
  have hok := h.ok.1
  have hq0 : nQ G 0 = G 0 := rfl
  have hq1 : nQ G 1 = G 1 := rfl
  have ha0 : nA G 0 = G 2 := rfl
  have ha1 : nA G 1 = G 3 := rfl
  refine S_Mo_cut ?_
  try simp only [r0, r1_q, r2, r3, r4, r5_q, r7, r12, r13, r15, r17, r18, r19, r20, r21, r22]
  refine ⟨h.s.o, _, c_Mo_areTwo h, ?_⟩
  rintro _ _ ⟨rfl, rfl⟩
  try simp only [r0, r1_q, r2, r3, r4, r5_q, r7, r12, r13, r15, r17, r18, r19, r20, r21, r22]
  refine ⟨fun qc_1 => ?_, fun qc_1 => ?_⟩
  · replace qc_1 := zb_eq0.1 qc_1
    exact ⟨zcs_f qc_1 rfl, MF.rf⟩
  · replace qc_1 := zb_ne0.1 qc_1
    refine ⟨h.s.o, _, c_Mo_mostWithout h (isQ.told qc_1), ?_⟩
    rintro x5_q m6_q w6_q
    obtain ⟨⟨K, k1_q, k2_q, k3_q⟩, F9⟩ := w6_q
    exact ⟨zcs_t qc_1 ⟨K, k1_q, isWz_e k2_q (fun x y x0_q x1_q y0 y1 => by have := qc_1; omega), k3_q⟩, F9⟩
