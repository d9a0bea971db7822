/-! THE MODEL, twentieth: drop, copy; without, cut -/
theorem c_Mo_drop {d : Nat} {kd : ZK} {m : ZM} {G : GR} {P : Int → GR} {s : Int} {S : Int → GR} {u : Int} {T : Int → Int} {n : Int} (hB_q : MB kd m G P s S u T n) (hS_q : SO G s u T n) {p q : Int} : CtI (d + 3) M_Mo_drop [(2, 78), (0, p), (0, q)] kd m (fun zz m1_q => zz = (fDrop (G, P, s, S, u, T, n) p q).1 ∧ MJ kd m m1_q (fDrop (G, P, s, S, u, T, n) p q).2) := by
  have h : MG kd m G := hB_q.g hS_q.1
  have r0 := h.s.r0
  have r1_q := h.s.r1
  have r2 := h.s.r2
  have r3 := h.s.r3
  have r4 := h.s.r4
  have r5_q := h.s.r5
  have r7 := h.s.r7
  have r12 := h.s.r12
  have r13 := h.s.r13
  have r15 := h.s.r15
  have r17 := h.s.r17
  have r18 := h.s.r18
  have r19 := h.s.r19
  have r20 := h.s.r20
  have r21 := h.s.r21
  have r22 := h.s.r22
  have hok := h.ok.1
  have hq0 : nQ G 0 = G 0 := rfl
  have hq1 : nQ G 1 = G 1 := rfl
  have ha0 : nA G 0 = G 2 := rfl
  have ha1 : nA G 1 = G 3 := rfl
  have key : ∀ mx : ZM, KP kd m mx G P s S u T n → isQ G p q → 2 ≤ nQ G p → Ev (d + 3) M_Mo_drop 0 0 36 [(2, 78), (0, p), zJ, (0, q)] [] kd mx (zqI kd (fun zz m1_q => zz = (fDrop (G, P, s, S, u, T, n) p q).1 ∧ MJ kd m m1_q (fDrop (G, P, s, S, u, T, n) p q).2)) := by
    intro mx h3 hq h2
    have hM_q := h3.1.1
    have hp := hq.1
    have b := h.ok.q p
    have qL0 := zfor1 (nQ G p - 1) (fun (c : Int) (mm : ZM) => Ev (d + 3) M_Mo_drop 0 0 36 [(2, 78), (0, p), zJ, (0, c)] [] kd mm (zqI kd (fun zz m1_q => zz = (fDrop (G, P, s, S, u, T, n) p q).1 ∧ MJ kd m m1_q (fDrop (G, P, s, S, u, T, n) p q).2))) (fun (c : Int) (mm : ZM) => q ≤ c ∧ (∀ c', c' ≠ 79 → mm c' = mx c') ∧ (∀ k, 0 ≤ k → k < 4 → mm 79 k = G k) ∧ SG p G (fun o => if o < q then o else if o < c then o + 1 else o) (mm 79)) (by
      intro c mm hb_q hI0 qKL0
      obtain ⟨hcq, hF, hZ, hS1⟩ := hI0
      have hMm : MS kd mm := hM_q.fr (hF 78 (by decide))
      have ep : iw (0 + p) = p := by rw [Int.zero_add]; exact iw_s (by omega) (by omega)
      have en : mm 79 p = nQ G p := by
        rcases hp with e | e <;> subst e
        · exact hZ 0 (by decide) (by decide)
        · exact hZ 1 (by decide) (by decide)
      refine T_Mo_drop_36 ?_
      try simp only [hMm.r0, ep, en]
      rw [iw_s (x := c + 1) (by omega) (by omega)]
      refine ⟨hMm.o, _, c_Mo_questionsR hMm hp, ?_⟩
      rintro _ _ ⟨rfl, rfl⟩
      rw [en]
      try simp only [hMm.r0, ep, en]
      refine ⟨fun qc_1 => ?_, fun qc_1 => ?_⟩
      · have hM2 : MS kd (zup mm 79 p (nQ G p - 1)) := hMm.fr (zup_off (by decide))
        rw [iw_s (x := nQ G p - 1) (by omega) (by omega)]
        refine ⟨hMm.o, ⟨829, hMm.k79, by omega, by omega⟩, ⟨829, hMm.k79, by omega, by omega⟩, hMm.o, _, c_Mo_questionsR hM2 hp, ?_⟩
        rintro _ _ ⟨rfl, rfl⟩
        rw [zup_self]
        have hS2 : SG p G (fun o => if o < q then o else if o < c then o + 1 else o) ((zup mm 79 p (nQ G p - 1)) 79) := by
          rw [zup_at]
          refine ⟨fun o j o0_q o1 j0 j1 => ?_, fun o j k o0_q o1 j0 j1 k0_q k1_q => ?_⟩
          · have bb := PP_in (p := p) (o := o) (j := j) ⟨o0_q, o1⟩ ⟨j0, j1⟩
            rw [gup_off (by omega)]; exact hS1.1 o j o0_q o1 j0 j1
          · have bb := PP_in (p := p) (o := o) (j := j) ⟨o0_q, o1⟩ ⟨j0, j1⟩
            rw [gup_off (by omega), gup_off (by omega)]; exact hS1.2 o j k o0_q o1 j0 j1 k0_q k1_q
        refine ⟨hMm.o, _, c_Mo_copies hM2 hp (by omega) (show 0 ≤ nQ G p - 1 ∧ nQ G p - 1 < 5 by omega) (by omega), ?_⟩
        rintro m9_q hC
        have hM9 : MS kd m9_q := hM2.fr (hC.1 78 (by decide))
        have hS3 := hS2.mc hC (by omega)
        have hz9 : ∀ k, 0 ≤ k → k < 4 → m9_q 79 k = gup (mm 79) p (nQ G p - 1) k := fun k k0_q k1_q => by rw [hC.2.1 k k0_q k1_q, zup_at]
        have en9 : m9_q 79 p = nQ G p - 1 := by rw [hz9 p (by omega) (by omega), gup_at]
        refine ⟨hMm.o, _, c_Mo_questionsR hM9 hp, ?_⟩
        rintro _ _ ⟨rfl, rfl⟩
        simp only [fDrop]
        rw [zif_t hq, zif_t (show nQ G p ≠ 1 by omega)]
        refine ⟨en9, ?_, fun k hk => by rw [hC.1 k (by omega), zup_off (by omega), hF k (by omega), h3.2.1 k (by omega) (by omega)]⟩
        refine h3.1.row (fun k hk => by rw [hC.1 k hk, zup_off hk, hF k hk]) (fun i i0_q i1_q => ?_)
        refine opDrop_row hS_q.1 hp ⟨hq.2.1, hq.2.2⟩ hS3 (fun o o0_q o1 => ?_) en9 (fun k k0_q k1_q hk => by rw [hz9 k k0_q k1_q, gup_off hk]; exact hZ k k0_q k1_q) i0_q i1_q
        try simp only []
        rw [if_pos trivial]
        rcases (show o = nQ G p - 1 ∨ o ≠ nQ G p - 1 by omega) with w | w
        · rw [if_pos w, if_neg (by omega), if_neg (by omega), if_pos w]
        · rw [if_neg w, if_neg w, show c = nQ G p - 1 by omega]
      · refine ⟨hMm.o, _, c_Mo_copies hMm hp (by omega) (by omega) (by omega), ?_⟩
        rintro m15 hC
        refine qKL0 m15 (by omega) ⟨by omega, fun k hk => by rw [hC.1 k hk]; exact hF k hk, fun k k0_q k1_q => by rw [hC.2.1 k k0_q k1_q]; exact hZ k k0_q k1_q, ?_⟩
        refine (hS1.mc hC (by omega)).cg (fun o o0_q o1 => ?_)
        try simp only []
        rw [if_neg (show ¬ c + 1 = -1 by omega), if_neg (show ¬ c + 1 < q by omega), if_neg (show ¬ c + 1 < c by omega)]
        rcases (show o = c ∨ o ≠ c by omega) with w | w
        · rw [if_pos w, if_neg (by omega), if_pos (by omega), w]
        · rw [if_neg w]
          rcases (show o < q ∨ (¬ o < q ∧ o < c) ∨ (¬ o < q ∧ ¬ o < c) by omega) with k | k | k
          · rw [if_pos k, if_pos k]
          · rw [if_neg k.1, if_pos k.2, if_neg k.1, if_pos (by omega)]
          · rw [if_neg k.1, if_neg k.2, if_neg k.1, if_neg (by omega)])
    refine qL0 q mx (by omega) ⟨Int.le_refl _, fun _ _ => rfl, fun k k0_q k1_q => h3.1.2.1 k k0_q (by omega), ?_⟩
    refine (SG_0 h3.1.2.1).cg (fun o o0_q o1 => ?_)
    rcases (show o < q ∨ ¬ o < q by omega) with k | k
    · rw [if_pos k]
    · rw [if_neg k, if_neg k]
  refine S_Mo_drop ?_
  try simp only [r0, r1_q, r2, r3, r4, r5_q, r7, r12, r13, r15, r17, r18, r19, r20, r21, r22]
  refine ⟨_, c_Mo_isPlayer, ?_⟩
  rintro _ _ ⟨rfl, rfl⟩
  try simp only [r0, r1_q, r2, r3, r4, r5_q, r7, r12, r13, r15, r17, r18, r19, r20, r21, r22]
  refine ⟨fun qc_1 => ?_, fun qc_1 => ?_⟩
  · replace qc_1 := zb_eq0.1 qc_1
    simp only [fDrop]
    rw [zif_f (fun z => qc_1 z.1)]
    exact ⟨rfl, MJ.rf hB_q⟩
  · replace qc_1 := zb_ne0.1 qc_1
    refine ⟨h.s.o, _, c_Mo_isQuestion h qc_1, ?_⟩
    rintro _ _ ⟨rfl, rfl⟩
    try simp only [r0, r1_q, r2, r3, r4, r5_q, r7, r12, r13, r15, r17, r18, r19, r20, r21, r22]
    refine ⟨fun qc_2 => ?_, fun qc_2 => ?_⟩
    · replace qc_2 := zb_ne0.1 qc_2
      refine ⟨h.s.o, _, c_Mo_questions h (by omega), ?_⟩
      rintro _ _ ⟨rfl, rfl⟩
      try simp only [r0, r1_q, r2, r3, r4, r5_q, r7, r12, r13, r15, r17, r18, r19, r20, r21, r22]
      refine ⟨fun qc_3 => ?_, fun qc_3 => ?_⟩
      · skip
        refine ⟨h.s.o, _, c_Mo_keepsPast hB_q hS_q.2.1, ?_⟩
        rintro m12_q h3
        exact key _ h3 qc_2 (by have := qc_2.2; omega)
      · skip
        simp only [fDrop]
        rw [zif_t qc_2, zif_f qc_3]
        exact ⟨rfl, MJ.rf hB_q⟩
    · replace qc_2 := zb_eq0.1 (Classical.not_not.1 qc_2)
      simp only [fDrop]
      rw [zif_f qc_2]
      exact ⟨rfl, MJ.rf hB_q⟩
theorem c_Mo_copy {d : Nat} {kd : ZK} {m : ZM} {G : GR} {P : Int → GR} {s : Int} {S : Int → GR} {u : Int} {T : Int → Int} {n : Int} (hB_q : MB kd m G P s S u T n) (hS_q : SO G s u T n) {p q : Int} : CtI (d + 3) M_Mo_copy [(2, 78), (0, p), (0, q)] kd m (fun zz m1_q => zz = (fCopy (G, P, s, S, u, T, n) p q).1 ∧ MJ kd m m1_q (fCopy (G, P, s, S, u, T, n) p q).2) := by
  have h : MG kd m G := hB_q.g hS_q.1
  have r0 := h.s.r0
  have r1_q := h.s.r1
  have r2 := h.s.r2
  have r3 := h.s.r3
  have r4 := h.s.r4
  have r5_q := h.s.r5
  have r7 := h.s.r7
  have r12 := h.s.r12
  have r13 := h.s.r13
  have r15 := h.s.r15
  have r17 := h.s.r17
  have r18 := h.s.r18
  have r19 := h.s.r19
  have r20 := h.s.r20
  have r21 := h.s.r21
  have r22 := h.s.r22
  have hok := h.ok.1
  have hq0 : nQ G 0 = G 0 := rfl
  have hq1 : nQ G 1 = G 1 := rfl
  have ha0 : nA G 0 = G 2 := rfl
  have ha1 : nA G 1 = G 3 := rfl
  refine S_Mo_copy ?_
  refine ⟨_, c_Mo_isPlayer, ?_⟩
  rintro _ _ ⟨rfl, rfl⟩
  try simp only [r0, r1_q, r2, r3, r4, r5_q, r7, r12, r13, r15, r17, r18, r19, r20, r21, r22]
  refine ⟨fun qc_1 => ?_, fun qc_1 => ?_⟩
  · replace qc_1 := zb_eq0.1 qc_1
    simp only [fCopy]
    rw [zif_f (fun z => qc_1 z.1)]
    exact ⟨rfl, MJ.rf hB_q⟩
  · replace qc_1 := zb_ne0.1 qc_1
    refine ⟨h.s.o, _, c_Mo_isQuestion h qc_1, ?_⟩
    rintro _ _ ⟨rfl, rfl⟩
    try simp only [r0, r1_q, r2, r3, r4, r5_q, r7, r12, r13, r15, r17, r18, r19, r20, r21, r22]
    refine ⟨fun qc_2 => ?_, fun qc_2 => ?_⟩
    · replace qc_2 := zb_ne0.1 qc_2
      have hp := qc_1
      have b := h.ok.q p
      refine ⟨h.s.o, _, c_Mo_questions h hp, ?_⟩
      rintro _ _ ⟨rfl, rfl⟩
      try simp only [r0, r1_q, r2, r3, r4, r5_q, r7, r12, r13, r15, r17, r18, r19, r20, r21, r22]
      refine ⟨fun qc_3 => ?_, fun qc_3 => ?_⟩
      · refine ⟨h.s.o, _, c_Mo_keepsPast hB_q hS_q.2.1, ?_⟩
        rintro m12_q h3
        have hM_q := h3.1.1
        have h12 := h3.1.g hS_q.1
        refine ⟨h.s.o, _, c_Mo_questions h12 hp, ?_⟩
        rintro _ _ ⟨rfl, rfl⟩
        refine ⟨h.s.o, _, c_Mo_copies hM_q hp (by omega) (show 0 ≤ nQ G p ∧ nQ G p < 5 by omega) (by omega), ?_⟩
        rintro m18 hC
        have hM18 : MS kd m18 := hM_q.fr (hC.1 78 (by decide))
        have ep : iw (0 + p) = p := by rw [Int.zero_add]; exact iw_s (by omega) (by omega)
        have en : m18 79 p = nQ G p := by
          rw [hC.2.1 p (by omega) (by omega), h3.1.2.1 p (by omega) (by omega)]
          rcases hp with e | e <;> subst e <;> rfl
        try simp only [hM18.r0, ep, en]
        rw [iw_s (x := nQ G p + 1) (by omega) (by omega)]
        have hM2 : MS kd (zup m18 79 p (nQ G p + 1)) := hM18.fr (zup_off (by decide))
        refine ⟨h.s.o, ⟨829, hM_q.k79, by omega, by omega⟩, ⟨829, hM_q.k79, by omega, by omega⟩, h.s.o, _, c_Mo_questionsR hM2 hp, ?_⟩
        rintro _ _ ⟨rfl, rfl⟩
        have hS3 := (SG_0 (p := p) h3.1.2.1).mc hC (by omega)
        have hS2 : SG p G (fun o => if o = nQ G p then (if q = -1 then -1 else q) else o) ((zup m18 79 p (nQ G p + 1)) 79) := by
          rw [zup_at]
          refine ⟨fun o j o0_q o1 j0 j1 => ?_, fun o j k o0_q o1 j0 j1 k0_q k1_q => ?_⟩
          · have bb := PP_in (p := p) (o := o) (j := j) ⟨o0_q, o1⟩ ⟨j0, j1⟩
            rw [gup_off (by omega)]; exact hS3.1 o j o0_q o1 j0 j1
          · have bb := PP_in (p := p) (o := o) (j := j) ⟨o0_q, o1⟩ ⟨j0, j1⟩
            rw [gup_off (by omega), gup_off (by omega)]; exact hS3.2 o j k o0_q o1 j0 j1 k0_q k1_q
        simp only [fCopy]
        rw [zif_t qc_2, zif_t qc_3, zup_self]
        refine ⟨rfl, ?_, fun k hk => by rw [zup_off (by omega), hC.1 k (by omega), h3.2.1 k (by omega) (by omega)]⟩
        refine h3.1.row (fun k hk => by rw [zup_off hk, hC.1 k hk]) (fun i i0_q i1_q => ?_)
        refine opCopy_row hS_q.1 hp ⟨qc_2.2.1, qc_2.2.2⟩ (by omega) hS2 (fun o o0_q o1 => ?_) zup_self (fun k k0_q k1_q hk => by rw [zup_nj hk, hC.2.1 k k0_q k1_q]; exact h3.1.2.1 k k0_q (by omega)) i0_q i1_q
        try simp only []
        rw [if_neg (show ¬ q = -1 by omega)]
      · simp only [fCopy]
        rw [zif_t qc_2, zif_f qc_3]
        exact ⟨rfl, MJ.rf hB_q⟩
    · replace qc_2 := zb_eq0.1 (Classical.not_not.1 qc_2)
      simp only [fCopy]
      rw [zif_f qc_2]
      exact ⟨rfl, MJ.rf hB_q⟩
