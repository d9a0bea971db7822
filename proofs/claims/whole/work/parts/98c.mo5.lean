/-! THE MODEL, fifth: the best rows, replies, climbs -/
/-- how many replies to y bring most; of one question, where that asked for loses -/
noncomputable def wyc (G : GR) (lx ly : Int) (r : Int → Int) (y : Int) : Int := zsum (G 3).toNat fun b => zb (isTop (G 0) (G 3) (fP G 0) r y b ∧ (y = ly → ¬ gV G lx y (r lx) b = 1))
theorem wyc_in {G : GR} (ho : GOK G) (lx ly : Int) (r : Int → Int) (y : Int) : 0 ≤ wyc G lx ly r y ∧ wyc G lx ly r y ≤ 4 := by
  have h0 := ho.1
  have := zsum_le (C := 1) (f := fun b => zb (isTop (G 0) (G 3) (fP G 0) r y b ∧ (y = ly → ¬ gV G lx y (r lx) b = 1))) (by decide) (fun _ => zb_01) (G 3).toNat
  unfold wyc
  omega
theorem wyc_n {G : GR} {lx ly : Int} {r : Int → Int} {y : Int} (h : y ≠ ly) : wyc G lx ly r y = tTops (G 0) (G 3) (fP G 0) r y := zsum_congr _ (fun b _ _ => zb_congr ⟨fun z => z.1, fun z => ⟨z, fun e => absurd e h⟩⟩)
theorem wyc_l {G : GR} (ho : GOK G) {lx y : Int} {r : Int → Int} : wyc G lx y r y = tLose (G 0) (G 3) (fP G 0) r y (fun j => gV G lx y (r lx) j = 0) := zsum_congr _ (fun b _ _ => zb_congr ⟨fun z => ⟨z.1, by have := z.2 rfl; have := ho.gV lx y (r lx) b; omega⟩, fun z => ⟨z.1, fun _ => by have := z.2; omega⟩⟩)
theorem wyc_0 {G : GR} {lx : Int} {r : Int → Int} : zprd (G 1).toNat (wyc G lx (-1) r) = tWays (G 0) (G 1) (G 3) (fP G 0) r 0 := by
  unfold tWays
  rw [Int.sub_zero]
  exact zprd_congr _ (fun y y0 _ => by rw [wyc_n (by omega), Int.zero_add])
theorem wyc_1 {G : GR} (ho : GOK G) {lx ly : Int} {r : Int → Int} : zprd (G 1).toNat (wyc G lx ly r) = tWL (G 0) (G 1) (G 3) (fP G 0) r ly (fun j => gV G lx ly (r lx) j = 0) := by
  unfold tWL
  refine zprd_congr _ (fun y y0 _ => ?_)
  unfold zput
  rcases Classical.em (y = ly) with e | e
  · rw [if_pos e, e, wyc_l ho]
  · rw [if_neg e, wyc_n e]
theorem wyc_congr {G : GR} {lx ly : Int} {r s : Int → Int} (h : ∀ q, 0 ≤ q → q < G 0 → r q = s q) (hl : ly = -1 ∨ (0 ≤ lx ∧ lx < G 0)) {y : Int} (hy : 0 ≤ y) : wyc G lx ly r y = wyc G lx ly s y := by
  refine zsum_congr _ (fun b _ _ => zb_congr ?_)
  have e1_q : isTop (G 0) (G 3) (fP G 0) r y b ↔ isTop (G 0) (G 3) (fP G 0) s y b := by
    unfold isTop tHi
    rw [zS_congr h, zhi_congr _ (fun j _ _ => zS_congr h _)]
  rw [e1_q]
  rcases hl with q | q
  · exact ⟨fun z => ⟨z.1, fun e => absurd e (by omega)⟩, fun z => ⟨z.1, fun e => absurd e (by omega)⟩⟩
  · rw [h lx q.1 q.2]
theorem p45 (k : Nat) (h : k ≤ 5) : (4 : Int) ^ k ≤ 1024 := p4_in h
theorem c_Mo_ways {d : Nat} {kd : ZK} {m : ZM} {G : GR} {lx ly : Int} (h : MG kd m G) (ht : 0 < G 0) (hr : isRw G 0 (m 86)) (hl : ly = -1 ∨ (0 ≤ lx ∧ lx < G 0)) : CtL (d + 5) M_Mo_ways [(2, 78), (0, lx), (0, ly)] kd m (fun x m1_q => x = zprd (G 1).toNat (wyc G lx ly (m 86)) ∧ ∀ e, e ≠ 88 → m1_q e = m e) := by
  have r0 := h.s.r0
  have r1_q := h.s.r1
  have r2 := h.s.r2
  have r3 := h.s.r3
  have r4 := h.s.r4
  have r5_q := h.s.r5
  have r7 := h.s.r7
  have r12 := h.s.r12
  have r13 := h.s.r13
  have r15 := h.s.r15
  have r17 := h.s.r17
  have r18 := h.s.r18
  have r19 := h.s.r19
  have r20 := h.s.r20
  have r21 := h.s.r21
  have r22 := h.s.r22
  have hok := h.ok.1
  have hq0 : nQ G 0 = G 0 := rfl
  have hq1 : nQ G 1 = G 1 := rfl
  have ha0 : nA G 0 = G 2 := rfl
  have ha1 : nA G 1 = G 3 := rfl
  have hto : 0 < G 0 := ht
  have tA := fun p => h.ok.tA hto p
  have tQ := fun p => h.ok.tQ hto p
  have r0 := rM0
  have r1_q := rM1
  have tA1 := tA 1
  have tA10 := tA (1 - 0)
  have n10 : nQ G (1 - 0) = G 1 := rfl
  have a10 : nA G (1 - 0) = G 3 := rfl
  have qL0 := zfor2 (G 1) (fun (y : Int) (mm : ZM) (p : Int) => Ev (d + 5) M_Mo_ways 0 0 5 [(2, 78), (0, lx), (0, ly), (1, p), zJ, (0, y), zJ, zJ, zJ, zJ] [] kd mm (zqL kd (fun x m1_q => x = zprd (G 1).toNat (wyc G lx ly (m 86)) ∧ ∀ e, e ≠ 88 → m1_q e = m e))) (fun (y : Int) (mm : ZM) (p : Int) => 0 ≤ y ∧ (∀ e, e ≠ 88 → mm e = m e) ∧ p = zprd y.toNat (wyc G lx ly (m 86))) (by
    intro y mm p hb_q hI0 qKL0
    obtain ⟨hy0, hF, hp_⟩ := hI0
    have hm_q : MG kd mm G := h.mf (MF.of (fun c hc_q => hF c (by omega)))
    have e86 : mm (rM 0) = m 86 := hF 86 (by decide)
    have hpb := zprd_in (f := (wyc G lx ly (m 86))) y.toNat (by omega) (fun i i0_q i1_q => wyc_in h.ok lx ly (m 86) i)
    have hp4 := p45 y.toNat (by omega)
    refine T_Mo_ways_5 ?_
    refine ⟨hm_q.s.o, _, c_Mo_questions hm_q (Or.inr rfl), ?_⟩
    rintro _ _ ⟨rfl, rfl⟩
    refine ⟨fun qc_1 => ?_, fun qc_1 => ?_⟩
    · skip
      rw [show y = G 1 by omega] at hp_
      exact ⟨hp_, hF⟩
    · skip
      refine ⟨hm_q.s.o, _, c_Mo_laysBy hm_q (Or.inl rfl) (by rw [e86]; exact hr) ⟨hy0, by omega⟩, ?_⟩
      rintro m6_q ⟨f6_q, b6⟩
      rw [e86] at b6
      have hm6 : MG kd m6_q G := hm_q.mf (MF.of (fun c hc_q => f6_q c (by omega)))
      refine ⟨hm_q.s.o, _, c_Mo_bestBy hm6 (Or.inl rfl) b6 (by omega) (fun b _ _ => (wAt_in h.ok _ _ _ _).1), ?_⟩
      rintro _ _ ⟨rfl, rfl⟩
      rw [← tHi_w (p := 0) (Or.inl rfl) (by omega)]
      have qL9 := zfor1 (G 3) (fun (b : Int) (s : Int) => Ev (d + 5) M_Mo_ways 0 0 35 [(2, 78), (0, lx), (0, ly), (1, p), zJ, (0, y), (0, (tHi (nQ G 0) (nA G (1 - 0)) (fP G 0) (m 86) y)), (0, s), (0, b), zJ] [] kd m6_q (zqL kd (fun x m1_q => x = zprd (G 1).toNat (wyc G lx ly (m 86)) ∧ ∀ e, e ≠ 88 → m1_q e = m e))) (fun (b : Int) (s : Int) => (0 ≤ b ∧ y < G 1) ∧ s = zsum b.toNat (fun b => zb (isTop (G 0) (G 3) (fP G 0) (m 86) y b ∧ (y = ly → ¬ gV G lx y (m 86 lx) b = 1))) ∧ 0 ≤ s ∧ s ≤ b) (by
        intro b s hb_q hI0 qKL9
        obtain ⟨⟨hb_, hyl⟩, hs, hs0, hs1⟩ := hI0
        have hm_q := hm6
        have htop : b < G 3 → (isTop (G 0) (G 3) (fP G 0) (m 86) y b ↔ wAt G (1 - 0) y b (m 86) = tHi (nQ G 0) (nA G (1 - 0)) (fP G 0) (m 86) y) := fun q => by
          have e := zS_wAt (G := G) (p := 0) (o := y) (j := b) (r := m 86) (Or.inl rfl) ⟨hb_, q⟩
          rw [← e]
          exact Iff.rfl
        refine T_Mo_ways_35 ?_
        try simp only [hm_q.s.r12, hm_q.s.r15]
        refine ⟨hm_q.s.o, _, c_Mo_answers hm_q (Or.inr rfl), ?_⟩
        rintro _ _ ⟨rfl, rfl⟩
        try simp only [hm_q.s.r12, hm_q.s.r15]
        refine ⟨fun qc_1 => ?_, fun qc_1 => ?_⟩
        · skip
          rw [iw_s (x := y + 1) (by omega) (by omega)]
          have hyc := wyc_in h.ok lx ly (m 86) y
          have hpm := zmul_in (a := p) (b := s) (A := 1024) (B := 4) (by omega) (by omega)
          rw [lw_s (x := p * s) (by omega) (by omega)]
          exact qKL0 m6_q _ (by omega) ⟨by omega, fun e he => by rw [f6_q e he, hF e he], by rw [zprd_1 hy0, ← hp_, hs, show b = G 3 by omega]; rfl⟩
        · skip
          refine ⟨fun qc_2 => ?_, fun qc_2 => ?_⟩
          · skip
            have htop := htop (by omega)
            have hB_q := b6
            have hcn : (y = ly → ¬ gV G lx y (m 86 lx) b = 1) := by first | exact fun e => absurd e qc_2 | exact fun _ => zb_eq0.1 (Classical.not_not.1 qc_3)
            refine T_Mo_ways_74 ?_
            try simp only [hm6.s.r15]
            refine ⟨hm6.s.o, ⟨4, hm6.s.k88, by omega, by omega⟩, fun qc_4 => ?_, fun qc_4 => ?_⟩
            · rw [hB_q b hb_ (by omega)] at qc_4
              refine ⟨_, c_Mo_truth, ?_⟩
              rintro _ _ ⟨rfl, rfl⟩
              rw [if_pos rfl, Int.add_zero, iw_s (x := s) (by omega) (by omega), iw_s (x := b + 1) (by omega) (by omega)]
              exact qKL9 s (by omega) ⟨⟨by omega, hyl⟩, by rw [zsum_1 hb_, ← hs, zb_f (fun z => qc_4 (htop.1 z.1))]; omega, hs0, by omega⟩
            · rw [hB_q b hb_ (by omega)] at qc_4
              refine ⟨fun qc_5 => absurd qc_5 (by decide), fun _ => ?_⟩
              refine ⟨_, c_Mo_truth, ?_⟩
              rintro _ _ ⟨rfl, rfl⟩
              rw [if_neg (by decide), iw_s (x := s + 1) (by omega) (by omega), iw_s (x := b + 1) (by omega) (by omega)]
              exact qKL9 _ (by omega) ⟨⟨by omega, hyl⟩, by rw [zsum_1 hb_, ← hs, zb_t ⟨htop.2 (Classical.not_not.1 qc_4), hcn⟩], by omega, by omega⟩
          · skip
            refine ⟨hm_q.s.o, ⟨5, hm_q.s.k86, by omega, by omega⟩, ?_⟩
            refine ⟨hm_q.s.o, _, c_Mo_isWin hm_q (by omega) (by omega) (by rw [f6_q 86 (by decide), hF 86 (by decide)]; have := hr lx (by omega) (by omega); omega) (by omega), ?_⟩
            rintro _ _ ⟨rfl, rfl⟩
            try simp only [hm_q.s.r12, hm_q.s.r15]
            try rw [f6_q 86 (by decide), hF 86 (by decide)]
            refine ⟨fun qc_3 => ?_, fun qc_3 => ?_⟩
            · skip
              have htop := htop (by omega)
              have hB_q := b6
              have hcn : ¬ (y = ly → ¬ gV G lx y (m 86 lx) b = 1) := fun z => z (by first | assumption | exact Classical.not_not.1 qc_2) (zb_ne0.1 qc_3)
              refine T_Mo_ways_74 ?_
              try simp only [hm6.s.r15]
              refine ⟨hm6.s.o, ⟨4, hm6.s.k88, by omega, by omega⟩, fun qc_4 => ?_, fun qc_4 => ?_⟩
              · rw [hB_q b hb_ (by omega)] at qc_4
                refine ⟨_, c_Mo_truth, ?_⟩
                rintro _ _ ⟨rfl, rfl⟩
                rw [if_pos rfl, Int.add_zero, iw_s (x := s) (by omega) (by omega), iw_s (x := b + 1) (by omega) (by omega)]
                exact qKL9 s (by omega) ⟨⟨by omega, hyl⟩, by rw [zsum_1 hb_, ← hs, zb_f (fun z => qc_4 (htop.1 z.1))]; omega, hs0, by omega⟩
              · refine ⟨fun _ => ?_, fun qc_5 => absurd (by trivial) qc_5⟩
                refine ⟨_, c_Mo_truth, ?_⟩
                rintro _ _ ⟨rfl, rfl⟩
                rw [if_pos rfl, Int.add_zero, iw_s (x := s) (by omega) (by omega), iw_s (x := b + 1) (by omega) (by omega)]
                exact qKL9 s (by omega) ⟨⟨by omega, hyl⟩, by rw [zsum_1 hb_, ← hs, zb_f (fun z => hcn z.2)]; omega, hs0, by omega⟩
            · skip
              have htop := htop (by omega)
              have hB_q := b6
              have hcn : (y = ly → ¬ gV G lx y (m 86 lx) b = 1) := by first | exact fun e => absurd e qc_2 | exact fun _ => zb_eq0.1 (Classical.not_not.1 qc_3)
              refine T_Mo_ways_74 ?_
              try simp only [hm6.s.r15]
              refine ⟨hm6.s.o, ⟨4, hm6.s.k88, by omega, by omega⟩, fun qc_4 => ?_, fun qc_4 => ?_⟩
              · rw [hB_q b hb_ (by omega)] at qc_4
                refine ⟨_, c_Mo_truth, ?_⟩
                rintro _ _ ⟨rfl, rfl⟩
                rw [if_pos rfl, Int.add_zero, iw_s (x := s) (by omega) (by omega), iw_s (x := b + 1) (by omega) (by omega)]
                exact qKL9 s (by omega) ⟨⟨by omega, hyl⟩, by rw [zsum_1 hb_, ← hs, zb_f (fun z => qc_4 (htop.1 z.1))]; omega, hs0, by omega⟩
              · rw [hB_q b hb_ (by omega)] at qc_4
                refine ⟨fun qc_5 => absurd qc_5 (by decide), fun _ => ?_⟩
                refine ⟨_, c_Mo_truth, ?_⟩
                rintro _ _ ⟨rfl, rfl⟩
                rw [if_neg (by decide), iw_s (x := s + 1) (by omega) (by omega), iw_s (x := b + 1) (by omega) (by omega)]
                exact qKL9 _ (by omega) ⟨⟨by omega, hyl⟩, by rw [zsum_1 hb_, ← hs, zb_t ⟨htop.2 (Classical.not_not.1 qc_4), hcn⟩], by omega, by omega⟩)
      exact qL9 0 0 (by omega) ⟨⟨by decide, by omega⟩, rfl, by decide, by decide⟩)
  refine S_Mo_ways ?_
  exact qL0 0 m 1 (by omega) ⟨by decide, fun _ _ => rfl, rfl⟩
theorem aw_in {G : GR} (ho : GOK G) (lx ly u : Int) (r : Int → Int → Int) (c : Int) : 0 ≤ zite (hiH G c = u) (zprd (G 1).toNat (wyc G lx ly (r c))) 0 ∧ zite (hiH G c = u) (zprd (G 1).toNat (wyc G lx ly (r c))) 0 ≤ 1024 := by
  have h0 := ho.1
  have h1 := zprd_in (f := wyc G lx ly (r c)) (G 1).toNat (by omega) (fun i i0_q i1_q => wyc_in ho lx ly (r c) i)
  have h2 := p45 (G 1).toNat (by omega)
  rcases Classical.em (hiH G c = u) with q | q
  · rw [zite_t q]; omega
  · rw [zite_f q]; omega
theorem c_Mo_allWays {d : Nat} {kd : ZK} {m : ZM} {G : GR} {lx ly : Int} (h : MG kd m G) (ht : 0 < G 0) (hl : ly = -1 ∨ (0 ≤ lx ∧ lx < G 0)) : CtL (d + 7) M_Mo_allWays [(2, 78), (0, lx), (0, ly)] kd m (fun x m1_q => (∃ u, isMx G u ∧ x = zsum (nA G 0 ^ (nQ G 0).toNat).toNat (fun c => zite (hiH G c = u) (zprd (G 1).toNat (wyc G lx ly (erow (G 0) (G 2) c))) 0)) ∧ MF m m1_q) := by
  have r0 := h.s.r0
  have r1_q := h.s.r1
  have r2 := h.s.r2
  have r3 := h.s.r3
  have r4 := h.s.r4
  have r5_q := h.s.r5
  have r7 := h.s.r7
  have r12 := h.s.r12
  have r13 := h.s.r13
  have r15 := h.s.r15
  have r17 := h.s.r17
  have r18 := h.s.r18
  have r19 := h.s.r19
  have r20 := h.s.r20
  have r21 := h.s.r21
  have r22 := h.s.r22
  have hok := h.ok.1
  have hq0 : nQ G 0 = G 0 := rfl
  have hq1 : nQ G 1 = G 1 := rfl
  have ha0 : nA G 0 = G 2 := rfl
  have ha1 : nA G 1 = G 3 := rfl
  have hto : 0 < G 0 := ht
  have tA := fun p => h.ok.tA hto p
  have tQ := fun p => h.ok.tQ hto p
  have r0 := rM0
  have r1_q := rM1
  have key : ∀ u, isMx G u → ∀ mm, MF m mm → (∀ j, 0 ≤ j → j < nQ G 0 → mm (rM 0) j = erow (nQ G 0) (nA G 0) 0 j) → Ev (d + 7) M_Mo_allWays 0 0 16 [(2, 78), (0, lx), (0, ly), (0, u), (1, 0), zJ, (0, 1)] [] kd mm (zqL kd (fun x m1_q => (∃ u, isMx G u ∧ x = zsum (nA G 0 ^ (nQ G 0).toNat).toNat (fun c => zite (hiH G c = u) (zprd (G 1).toNat (wyc G lx ly (erow (G 0) (G 2) c))) 0)) ∧ MF m m1_q)) := by
    intro u hu mm0 hF0 hE0
    have qL0 := zfor3 ((nA G 0 ^ (nQ G 0).toNat)) (fun (i : Int) (mm : ZM) (a : Int) (t : Int) => Ev (d + 7) M_Mo_allWays 0 0 16 [(2, 78), (0, lx), (0, ly), (0, u), (1, a), zJ, (0, t)] [] kd mm (zqL kd (fun x m1_q => (∃ u, isMx G u ∧ x = zsum (nA G 0 ^ (nQ G 0).toNat).toNat (fun c => zite (hiH G c = u) (zprd (G 1).toNat (wyc G lx ly (erow (G 0) (G 2) c))) 0)) ∧ MF m m1_q))) (fun (i : Int) (mm : ZM) (a : Int) (t : Int) => 0 ≤ i ∧ MF m mm ∧ a = zsum i.toNat (fun c => zite (hiH G c = u) (zprd (G 1).toNat (wyc G lx ly (erow (G 0) (G 2) c))) 0) ∧ t = zb (i < (nA G 0 ^ (nQ G 0).toNat)) ∧ (i < (nA G 0 ^ (nQ G 0).toNat) → ∀ j, 0 ≤ j → j < nQ G 0 → mm (rM 0) j = erow (nQ G 0) (nA G 0) i j)) (by
      intro i mm a t hb_q hI0 qKL0
      obtain ⟨hi_, hF, ha_, ht_, hEE⟩ := hI0
      have hm_q : MG kd mm G := h.mf hF
      have hab := zsum_le (C := 1024) (f := (fun c => zite (hiH G c = u) (zprd (G 1).toNat (wyc G lx ly (erow (G 0) (G 2) c))) 0)) (by decide) (fun c => aw_in h.ok lx ly u (fun c => erow (G 0) (G 2) c) c) i.toNat
      have hNb := (pw_in (na := nA G 0) (n := (nQ G 0).toNat) (by have := tA 0; omega) (by have := tQ 0; omega)).2
      refine T_Mo_allWays_16 ?_
      refine ⟨fun qc_1 => ?_, fun qc_1 => ?_⟩
      · skip
        have hn : ¬ i < (nA G 0 ^ (nQ G 0).toNat) := zb_eq0.1 (ht_.symm.trans qc_1)
        exact ⟨⟨u, hu, by rw [ha_, show i = (nA G 0 ^ (nQ G 0).toNat) by omega]⟩, hF⟩
      · have hlt : i < (nA G 0 ^ (nQ G 0).toNat) := zb_ne0.1 (fun e_ => qc_1 (ht_.trans e_))
        refine ⟨hm_q.s.o, _, c_Mo_reached hm_q (Or.inl rfl) (rwE (by have := tA 0; omega) (hEE hlt)) (by have := tA (1 - 0); omega), ?_⟩
        rintro x2_q m3_q ⟨x3, f3_q⟩
        rw [if_neg (by decide)] at x3
        have F3 : MF mm m3_q := MF.of (fun c hc_q => f3_q c (by omega))
        have hm3 : MG kd m3_q G := hm_q.mf F3
        have hx : x2_q = hiH G i := by rw [x3]; exact tHigh_congr (hEE hlt)
        have hE3 : ∀ j, 0 ≤ j → j < nQ G 0 → m3_q (rM 0) j = erow (nQ G 0) (nA G 0) i j := fun j j0 j1 => by rw [f3_q (rM 0) (by decide)]; exact hEE hlt j j0 j1
        refine ⟨fun qc_2 => ?_, fun qc_2 => ?_⟩
        · skip
          refine ⟨hm_q.s.o, _, c_Mo_goesOn (c := i) hm3 (Or.inl rfl) (by have := tA 0; omega) hE3 ⟨hi_, hlt⟩, ?_⟩
          rintro x5_q m6_q ⟨xg, eg, fg⟩
          have hib := aw_in h.ok lx ly u (fun c => erow (G 0) (G 2) c) i
          have hv : zite (hiH G i = u) (zprd (G 1).toNat (wyc G lx ly (erow (G 0) (G 2) i))) 0 = 0 := zite_f (fun e => qc_2 (by rw [hx]; exact e))
          rw [lw_s (by omega) (by omega)]
          exact qKL0 _ _ _ (by omega) ⟨by omega, (hF.tr F3).tr (MF.of (fun c hc_q => fg c (by rw [r0]; omega))), by rw [zsum_1 hi_, ← ha_, hv], xg, fun hl2 => eg hl2⟩
        · skip
          refine ⟨hm_q.s.o, _, c_Mo_ways hm3 hto (rwE (p := 0) (by have := tA 0; omega) hE3) hl, ?_⟩
          rintro x8 m9_q ⟨x9, f9_q⟩
          have F9 : MF m3_q m9_q := MF.of (fun c hc_q => f9_q c (by omega))
          have hm9 : MG kd m9_q G := hm3.mf F9
          have hx9 : x8 = zprd (G 1).toNat (wyc G lx ly (erow (G 0) (G 2) i)) := by rw [x9]; exact zprd_congr _ (fun y y0 _ => wyc_congr (G := G) (fun q q0 q1_q => hE3 q q0 q1_q) hl y0)
          refine ⟨hm_q.s.o, _, c_Mo_goesOn (c := i) hm9 (Or.inl rfl) (by have := tA 0; omega) (fun j j0 j1 => by rw [f9_q (rM 0) (by decide)]; exact hE3 j j0 j1) ⟨hi_, hlt⟩, ?_⟩
          rintro x11 m12_q ⟨xg, eg, fg⟩
          have hib := aw_in h.ok lx ly u (fun c => erow (G 0) (G 2) c) i
          have hv : zite (hiH G i = u) (zprd (G 1).toNat (wyc G lx ly (erow (G 0) (G 2) i))) 0 = x8 := by rw [hx9]; exact zite_t (by rw [← hx]; exact Classical.not_not.1 qc_2)
          rw [lw_s (by omega) (by omega)]
          exact qKL0 _ _ _ (by omega) ⟨by omega, ((hF.tr F3).tr F9).tr (MF.of (fun c hc_q => fg c (by rw [r0]; omega))), by rw [zsum_1 hi_, ← ha_, hv], xg, fun hl2 => eg hl2⟩)
    exact qL0 0 mm0 0 1 (by have := rows1 h.ok hto 0; omega) ⟨by decide, hF0, rfl, (zbT (by have := rows1 h.ok hto 0; omega)), fun _ => hE0⟩
  refine S_Mo_allWays ?_
  refine ⟨h.s.o, _, c_Mo_mostWorth h hto, ?_⟩
  rintro x2_q m3_q ⟨i3_q, f3_q⟩
  have F3 : MF m m3_q := MF.of (fun c hc_q => f3_q c (by omega) (by omega))
  have hm3 : MG kd m3_q G := h.mf F3
  refine ⟨h.s.o, _, c_Mo_laysFirst hm3, ?_⟩
  rintro m6_q ⟨f6_q, z6⟩
  exact key _ i3_q m6_q (F3.tr (MF.of (fun c hc_q => f6_q c (by rw [r0]; omega)))) (fun j j0 j1 => by rw [erow_0 j (by have := tA 0; omega)]; exact z6 j j0 (by have := tQ 0; omega))
theorem c_Mo_bests {d : Nat} {kd : ZK} {m : ZM} {G : GR} (h : MG kd m G) : CtL (d + 8) M_Mo_bests [(2, 78)] kd m (fun x m1_q => (pBests G x) ∧ MF m m1_q) := by
  have r0 := h.s.r0
  have r1_q := h.s.r1
  have r2 := h.s.r2
  have r3 := h.s.r3
  have r4 := h.s.r4
  have r5_q := h.s.r5
  have r7 := h.s.r7
  have r12 := h.s.r12
  have r13 := h.s.r13
  have r15 := h.s.r15
  have r17 := h.s.r17
  have r18 := h.s.r18
  have r19 := h.s.r19
  have r20 := h.s.r20
  have r21 := h.s.r21
  have r22 := h.s.r22
  have hok := h.ok.1
  have hq0 : nQ G 0 = G 0 := rfl
  have hq1 : nQ G 1 = G 1 := rfl
  have ha0 : nA G 0 = G 2 := rfl
  have ha1 : nA G 1 = G 3 := rfl
  refine S_Mo_bests ?_
  try simp only [r0, r1_q, r2, r3, r4, r5_q, r7, r12, r13, r15, r17, r18, r19, r20, r21, r22]
  refine ⟨h.s.o, _, c_Mo_hasGame h, ?_⟩
  rintro _ _ ⟨rfl, rfl⟩
  try simp only [r0, r1_q, r2, r3, r4, r5_q, r7, r12, r13, r15, r17, r18, r19, r20, r21, r22]
  refine ⟨fun qc_1 => ?_, fun qc_1 => ?_⟩
  · replace qc_1 := zb_eq0.1 qc_1
    refine ⟨(zcs_f qc_1 rfl), MF.rf⟩
  · replace qc_1 := zb_ne0.1 qc_1
    have hto : 0 < G 0 := qc_1
    refine ⟨h.s.o, _, c_Mo_allWays h hto (Or.inl rfl), ?_⟩
    rintro x5_q m6_q ⟨i6_q, F6⟩
    obtain ⟨u, u1_q, u2_q⟩ := i6_q
    refine ⟨(zcs_t qc_1 ⟨u, u1_q, ?_⟩), F6⟩
    rw [u2_q]
    refine zsum_congr _ (fun c _ _ => ?_)
    unfold tT
    rw [← wyc_0 (lx := -1)]
    rfl
theorem c_Mo_lost {d : Nat} {kd : ZK} {m : ZM} {G : GR} (h : MG kd m G) {y z : Int} : CtL (d + 8) M_Mo_lost [(2, 78), (0, y), (0, z)] kd m (fun x m1_q => (pLost G y z x) ∧ MF m m1_q) := by
  have r0 := h.s.r0
  have r1_q := h.s.r1
  have r2 := h.s.r2
  have r3 := h.s.r3
  have r4 := h.s.r4
  have r5_q := h.s.r5
  have r7 := h.s.r7
  have r12 := h.s.r12
  have r13 := h.s.r13
  have r15 := h.s.r15
  have r17 := h.s.r17
  have r18 := h.s.r18
  have r19 := h.s.r19
  have r20 := h.s.r20
  have r21 := h.s.r21
  have r22 := h.s.r22
  have hok := h.ok.1
  have hq0 : nQ G 0 = G 0 := rfl
  have hq1 : nQ G 1 = G 1 := rfl
  have ha0 : nA G 0 = G 2 := rfl
  have ha1 : nA G 1 = G 3 := rfl
  refine S_Mo_lost ?_
  try simp only [r0, r1_q, r2, r3, r4, r5_q, r7, r12, r13, r15, r17, r18, r19, r20, r21, r22]
  refine ⟨h.s.o, _, c_Mo_areTwo h, ?_⟩
  rintro _ _ ⟨rfl, rfl⟩
  try simp only [r0, r1_q, r2, r3, r4, r5_q, r7, r12, r13, r15, r17, r18, r19, r20, r21, r22]
  refine ⟨fun qc_1 => ?_, fun qc_1 => ?_⟩
  · replace qc_1 := zb_eq0.1 qc_1
    refine ⟨(zcs_f qc_1 rfl), MF.rf⟩
  · replace qc_1 := zb_ne0.1 qc_1
    have hto : 0 < G 0 := isQ.told qc_1
    refine ⟨h.s.o, _, c_Mo_allWays h hto (Or.inr qc_1.1.2), ?_⟩
    rintro x5_q m6_q ⟨i6_q, F6⟩
    obtain ⟨u, u1_q, u2_q⟩ := i6_q
    refine ⟨(zcs_t qc_1 ⟨u, u1_q, ?_⟩), F6⟩
    rw [u2_q]
    refine zsum_congr _ (fun c _ _ => ?_)
    unfold tTL
    rw [← wyc_1 h.ok]
    rfl
theorem c_Mo_replies {d : Nat} {kd : ZK} {m : ZM} {G : GR} {p : Int} (h : MG kd m G) (hp : p = 0 ∨ p = 1) (ht : 0 < G 0) (hr : isRw G (1 - p) (m (rM (1 - p)))) : CtV (d + 5) M_Mo_replies [(2, 78), (0, p)] kd m (fun m1_q => (∀ e, e ≠ 88 → e ≠ rM p → m1_q e = m e) ∧ ∀ q, 0 ≤ q → q < nQ G p → m1_q (rM p) q = bA G p (m (rM (1 - p))) q) := by
  have r0 := h.s.r0
  have r1_q := h.s.r1
  have r2 := h.s.r2
  have r3 := h.s.r3
  have r4 := h.s.r4
  have r5_q := h.s.r5
  have r7 := h.s.r7
  have r12 := h.s.r12
  have r13 := h.s.r13
  have r15 := h.s.r15
  have r17 := h.s.r17
  have r18 := h.s.r18
  have r19 := h.s.r19
  have r20 := h.s.r20
  have r21 := h.s.r21
  have r22 := h.s.r22
  have hok := h.ok.1
  have hq0 : nQ G 0 = G 0 := rfl
  have hq1 : nQ G 1 = G 1 := rfl
  have ha0 : nA G 0 = G 2 := rfl
  have ha1 : nA G 1 = G 3 := rfl
  have hto : 0 < G 0 := ht
  have tA := fun p => h.ok.tA hto p
  have tQ := fun p => h.ok.tQ hto p
  have r0 := rM0
  have r1_q := rM1
  have tAp := tA p
  have tQp := tQ p
  have hri := rM_in p
  have hrj := rM_in (1 - p)
  have hne := rM_o hp
  have hpp : 1 - (1 - p) = p := by omega
  have hpo : 1 - p = 0 ∨ 1 - p = 1 := by omega
  have qL0 := zfor1 (nQ G p) (fun (q : Int) (mm : ZM) => Ev (d + 5) M_Mo_replies 0 0 2 [(2, 78), (0, p), (0, q), zJ, zJ] [] kd mm (zqV kd (fun m1_q => (∀ e, e ≠ 88 → e ≠ rM p → m1_q e = m e) ∧ ∀ q, 0 ≤ q → q < nQ G p → m1_q (rM p) q = bA G p (m (rM (1 - p))) q))) (fun (q : Int) (mm : ZM) => 0 ≤ q ∧ (∀ e, e ≠ 88 → e ≠ rM p → mm e = m e) ∧ ∀ j, 0 ≤ j → j < q → mm (rM p) j = bA G p (m (rM (1 - p))) j) (by
    intro q mm hb_q hI0 qKL0
    obtain ⟨hq_, hF, hX⟩ := hI0
    have hm_q : MG kd mm G := h.mf (MF.of (fun c hc_q => hF c (by omega) (by omega)))
    have er : mm (rM (1 - p)) = m (rM (1 - p)) := hF _ (by omega) (fun e => hne e.symm)
    refine T_Mo_replies_2 ?_
    rw [iw_s (x := 1 - p) (by omega) (by omega)]
    refine ⟨hm_q.s.o, _, c_Mo_questions hm_q hp, ?_⟩
    rintro _ _ ⟨rfl, rfl⟩
    refine ⟨fun qc_1 => ?_, fun qc_1 => ?_⟩
    · skip
      exact ⟨hF, fun j j0 j1 => hX j j0 (by omega)⟩
    · skip
      refine ⟨hm_q.s.o, _, c_Mo_laysBy hm_q hpo (by rw [er]; exact hr) ⟨hq_, by rw [hpp]; omega⟩, ?_⟩
      rintro m6_q ⟨f6_q, b6⟩
      rw [er, hpp] at b6
      have hm6 : MG kd m6_q G := hm_q.mf (MF.of (fun c hc_q => f6_q c (by omega)))
      have qL9 := zfor1 (nA G p) (fun (a : Int) (b : Int) => Ev (d + 5) M_Mo_replies 0 0 24 [(2, 78), (0, p), (0, q), (0, b), (0, a)] [] kd m6_q (zqV kd (fun m1_q => (∀ e, e ≠ 88 → e ≠ rM p → m1_q e = m e) ∧ ∀ q, 0 ≤ q → q < nQ G p → m1_q (rM p) q = bA G p (m (rM (1 - p))) q))) (fun (a : Int) (b : Int) => 1 ≤ a ∧ b = zam (a - 1).toNat (fun a => wAt G p q a (m (rM (1 - p))))) (by
        intro a b hb_q hI0 qKL9
        obtain ⟨ha_, hb_⟩ := hI0
        have z0 := zam_in (h := (fun a => wAt G p q a (m (rM (1 - p))))) (a - 1).toNat
        have z1 := zam_1 (i := a - 1) (by omega) (fun a => wAt G p q a (m (rM (1 - p))))
        have z2 := zam_at (h := (fun a => wAt G p q a (m (rM (1 - p))))) (a - 1).toNat
        rw [show a - 1 + 1 = a by omega] at z1
        refine T_Mo_replies_24 ?_
        try simp only [hm6.s.r15]
        refine ⟨hm6.s.o, _, c_Mo_answers hm6 hp, ?_⟩
        rintro _ _ ⟨rfl, rfl⟩
        try simp only [hm6.s.r15]
        refine ⟨fun qc_1 => ?_, fun qc_1 => ?_⟩
        · skip
          refine ⟨hm6.s.o, _, c_Mo_rowOf hm6, ?_⟩
          rintro _ _ ⟨rfl, rfl⟩
          try simp only [hm6.s.r15]
          refine ⟨⟨5, hm6.s.kr p, by omega, by omega⟩, ?_⟩
          rw [iw_s (x := q + 1) (by omega) (by omega)]
          refine qKL0 _ (by omega) ⟨by omega, fun e e1_q e2_q => by rw [zup_off e2_q, f6_q e e1_q, hF e e1_q e2_q], fun j j0 j1 => ?_⟩
          rw [zup_at]
          rcases (show j = q ∨ j < q by omega) with k | k
          · rw [k, gup_at, hb_, show a = nA G p by omega]; rfl
          · rw [gup_off (by omega), f6_q (rM p) (by omega)]; exact hX j j0 k
        · skip
          refine ⟨hm6.s.o, ⟨4, hm6.s.k88, by omega, by omega⟩, hm6.s.o, ⟨4, hm6.s.k88, by omega, by omega⟩, ?_⟩
          refine ⟨fun qc_2 => ?_, fun qc_2 => ?_⟩
          · skip
            rw [iw_s (x := a + 1) (by omega) (by omega)]
            rw [b6 a (by omega) (by omega), b6 b (by omega) (by omega)] at qc_2
            first | exact qKL9 b (by omega) ⟨by omega, by rw [show a + 1 - 1 = a by omega, z1, if_neg (by rw [← z2, ← hb_]; omega), hb_]⟩ | exact qKL9 a (by omega) ⟨by omega, by rw [show a + 1 - 1 = a by omega, z1, if_pos (by rw [← z2, ← hb_]; omega)]⟩
          · skip
            rw [iw_s (x := a + 1) (by omega) (by omega)]
            rw [b6 a (by omega) (by omega), b6 b (by omega) (by omega)] at qc_2
            first | exact qKL9 b (by omega) ⟨by omega, by rw [show a + 1 - 1 = a by omega, z1, if_neg (by rw [← z2, ← hb_]; omega), hb_]⟩ | exact qKL9 a (by omega) ⟨by omega, by rw [show a + 1 - 1 = a by omega, z1, if_pos (by rw [← z2, ← hb_]; omega)]⟩)
      exact qL9 1 0 (by omega) ⟨by decide, rfl⟩)
  refine S_Mo_replies ?_
  exact qL0 0 m (by omega) ⟨by decide, fun _ _ _ => rfl, fun j j0 j1 => by omega⟩
theorem isNum.told {G : GR} {p n : Int} (h : isNum G p n) : 0 < G 0 := h.1.1
theorem c_Mo_play {d : Nat} {kd : ZK} {m : ZM} {G : GR} (h : MG kd m G) {y z : Int} (hz1 : zin32 y) (hz2 : zin32 z) : CtI (d + 5) M_Mo_play [(2, 78), (0, y), (0, z)] kd m (fun x m1_q => (x = aPlay G y z) ∧ MF m m1_q) := by
  have r0 := h.s.r0
  have r1_q := h.s.r1
  have r2 := h.s.r2
  have r3 := h.s.r3
  have r4 := h.s.r4
  have r5_q := h.s.r5
  have r7 := h.s.r7
  have r12 := h.s.r12
  have r13 := h.s.r13
  have r15 := h.s.r15
  have r17 := h.s.r17
  have r18 := h.s.r18
  have r19 := h.s.r19
  have r20 := h.s.r20
  have r21 := h.s.r21
  have r22 := h.s.r22
  have hok := h.ok.1
  have hq0 : nQ G 0 = G 0 := rfl
  have hq1 : nQ G 1 = G 1 := rfl
  have ha0 : nA G 0 = G 2 := rfl
  have ha1 : nA G 1 = G 3 := rfl
  refine S_Mo_play ?_
  try simp only [r0, r1_q, r2, r3, r4, r5_q, r7, r12, r13, r15, r17, r18, r19, r20, r21, r22]
  refine ⟨h.s.o, _, c_Mo_lays h (Or.inl rfl) hz1, ?_⟩
  rintro x2_q m3_q ⟨i3_q, f3_q, e3_q⟩
  subst i3_q
  have F3 : MF m m3_q := MF.of (fun c hc_q => f3_q c (by rw [rM0]; omega))
  have hm3 : MG kd m3_q G := h.mf F3
  refine ⟨fun qc_1 => ?_, fun qc_1 => ?_⟩
  · replace qc_1 := zb_eq0.1 qc_1
    exact ⟨by rw [aPlay, zite_f (fun q => qc_1 q.1)], F3⟩
  · replace qc_1 := zb_ne0.1 qc_1
    refine ⟨h.s.o, _, c_Mo_lays hm3 (Or.inr rfl) hz2, ?_⟩
    rintro x5_q m6_q ⟨i6_q, f6_q, e6_q⟩
    subst i6_q
    have F6 : MF m m6_q := F3.tr (MF.of (fun c hc_q => f6_q c (by rw [rM1]; omega)))
    have hm6 : MG kd m6_q G := h.mf F6
    refine ⟨fun qc_2 => ?_, fun qc_2 => ?_⟩
    · replace qc_2 := zb_eq0.1 qc_2
      exact ⟨by rw [aPlay, zite_f (fun q => qc_2 q.2)], F6⟩
    · replace qc_2 := zb_ne0.1 qc_2
      have hto : 0 < G 0 := qc_1.1.1
      have g6 : ∀ q, 0 ≤ q → q < nQ G 0 → m6_q 86 q = drow G 0 y q := fun q q1_q q2_q => by rw [f6_q 86 (by decide)]; exact e3_q qc_1 q q1_q q2_q
      have k6_q : ∀ q, 0 ≤ q → q < nQ G 1 → m6_q 87 q = drow G 1 z q := fun q q1_q q2_q => e6_q qc_2 q q1_q q2_q
      have hr1 : isRw G 0 (m6_q 86) := qc_1.rw g6
      have hr2 : isRw G 1 (m6_q 87) := qc_2.rw k6_q
      refine ⟨h.s.o, _, c_Mo_worthNow hm6 hr1 hr2, ?_⟩
      rintro _ _ ⟨rfl, rfl⟩
      try simp only [r0, r1_q, r2, r3, r4, r5_q, r7, r12, r13, r15, r17, r18, r19, r20, r21, r22]
      refine ⟨?_, F6⟩
      rw [aPlay, zite_t ⟨qc_1, qc_2⟩]
      exact wBoth_congr (fun q q1_q q2_q => g6 q q1_q q2_q) (fun q q1_q q2_q => k6_q q q1_q q2_q)
theorem c_Mo_hangs {d : Nat} {kd : ZK} {m : ZM} {G : GR} (h : MG kd m G) {y z : Int} (hz1 : zin32 y) : CtI (d + 5) M_Mo_hangs [(2, 78), (0, y), (0, z)] kd m (fun x m1_q => (x = aHangs G y z) ∧ MF m m1_q) := by
  have r0 := h.s.r0
  have r1_q := h.s.r1
  have r2 := h.s.r2
  have r3 := h.s.r3
  have r4 := h.s.r4
  have r5_q := h.s.r5
  have r7 := h.s.r7
  have r12 := h.s.r12
  have r13 := h.s.r13
  have r15 := h.s.r15
  have r17 := h.s.r17
  have r18 := h.s.r18
  have r19 := h.s.r19
  have r20 := h.s.r20
  have r21 := h.s.r21
  have r22 := h.s.r22
  have hok := h.ok.1
  have hq0 : nQ G 0 = G 0 := rfl
  have hq1 : nQ G 1 = G 1 := rfl
  have ha0 : nA G 0 = G 2 := rfl
  have ha1 : nA G 1 = G 3 := rfl
  refine S_Mo_hangs ?_
  try simp only [r0, r1_q, r2, r3, r4, r5_q, r7, r12, r13, r15, r17, r18, r19, r20, r21, r22]
  refine ⟨h.s.o, _, c_Mo_lays h (Or.inl rfl) hz1, ?_⟩
  rintro x2_q m3_q ⟨i3_q, f3_q, e3_q⟩
  subst i3_q
  have F3 : MF m m3_q := MF.of (fun c hc_q => f3_q c (by rw [rM0]; omega))
  have hm3 : MG kd m3_q G := h.mf F3
  refine ⟨fun qc_1 => ?_, fun qc_1 => ?_⟩
  · replace qc_1 := zb_eq0.1 qc_1
    exact ⟨by rw [aHangs, zite_f qc_1], F3⟩
  · replace qc_1 := zb_ne0.1 qc_1
    have hto : 0 < G 0 := qc_1.1.1
    have hga : 1 ≤ nA G (1 - 0) := by have := h.ok.tA hto (1 - 0); omega
    have hr1 : isRw G 0 (m3_q (rM 0)) := qc_1.rw (fun q q1_q q2_q => e3_q qc_1 q q1_q q2_q)
    refine ⟨h.s.o, _, c_Mo_isQuestion hm3 (Or.inr rfl), ?_⟩
    rintro _ _ ⟨rfl, rfl⟩
    try simp only [r0, r1_q, r2, r3, r4, r5_q, r7, r12, r13, r15, r17, r18, r19, r20, r21, r22]
    refine ⟨fun qc_2 => ?_, fun qc_2 => ?_⟩
    · replace qc_2 := zb_ne0.1 qc_2
      refine ⟨h.s.o, _, c_Mo_laysBy hm3 (Or.inl rfl) hr1 (show 0 ≤ z ∧ z < nQ G (1 - 0) from qc_2.2), ?_⟩
      rintro m9_q ⟨f9_q, b9⟩
      have hm9 : MG kd m9_q G := hm3.mf (MF.of (fun c hc_q => f9_q c (by omega)))
      have F9 : MF m m9_q := F3.tr (MF.of (fun c hc_q => f9_q c (by omega)))
      refine ⟨h.s.o, _, c_Mo_bestBy hm9 (Or.inl rfl) b9 hga (fun b _ _ => (wAt_in h.ok _ _ _ _).1), ?_⟩
      rintro _ _ ⟨rfl, rfl⟩
      try simp only [r0, r1_q, r2, r3, r4, r5_q, r7, r12, r13, r15, r17, r18, r19, r20, r21, r22]
      refine ⟨h.s.o, _, c_Mo_worstBy hm9 (Or.inl rfl) b9 hga, ?_⟩
      rintro _ _ ⟨rfl, rfl⟩
      try simp only [r0, r1_q, r2, r3, r4, r5_q, r7, r12, r13, r15, r17, r18, r19, r20, r21, r22]
      refine ⟨?_, F9⟩
      rw [aHangs, zite_t qc_1, zite_t qc_2]
      have w1_q := zhi_bd2 (C := 0) (D := 45) (f := fun j => wAt G (1 - 0) z j (m3_q (rM 0))) (nA G (1 - 0) - 1).toNat (fun j _ _ => wAt_in h.ok _ _ _ _)
      have w2_q := zlo_bd2 (C := 0) (D := 45) (f := fun j => wAt G (1 - 0) z j (m3_q (rM 0))) (nA G (1 - 0) - 1).toNat (fun j _ _ => wAt_in h.ok _ _ _ _)
      rw [iw_s (by omega) (by omega)]
      have hc_q : ∀ b, wAt G (1 - 0) z b (m3_q (rM 0)) = wAt G 1 z b (drow G 0 y) := fun b => wAt_congr (fun q q1_q q2_q => e3_q qc_1 q q1_q q2_q)
      unfold gSpan
      rw [zhi_congr _ (fun j _ _ => hc_q j), zlo_congr _ (fun j _ _ => hc_q j)]
      rfl
    · replace qc_2 := zb_eq0.1 (Classical.not_not.1 qc_2)
      exact ⟨by rw [aHangs, zite_t qc_1, zite_f qc_2], F3⟩
theorem c_Mo_reply {d : Nat} {kd : ZK} {m : ZM} {G : GR} (h : MG kd m G) {p z : Int} (hz1 : zin32 z) : CtI (d + 6) M_Mo_reply [(2, 78), (0, p), (0, z)] kd m (fun x m1_q => (x = aReply G p z) ∧ MF m m1_q) := by
  have r0 := h.s.r0
  have r1_q := h.s.r1
  have r2 := h.s.r2
  have r3 := h.s.r3
  have r4 := h.s.r4
  have r5_q := h.s.r5
  have r7 := h.s.r7
  have r12 := h.s.r12
  have r13 := h.s.r13
  have r15 := h.s.r15
  have r17 := h.s.r17
  have r18 := h.s.r18
  have r19 := h.s.r19
  have r20 := h.s.r20
  have r21 := h.s.r21
  have r22 := h.s.r22
  have hok := h.ok.1
  have hq0 : nQ G 0 = G 0 := rfl
  have hq1 : nQ G 1 = G 1 := rfl
  have ha0 : nA G 0 = G 2 := rfl
  have ha1 : nA G 1 = G 3 := rfl
  refine S_Mo_reply ?_
  try simp only [r0, r1_q, r2, r3, r4, r5_q, r7, r12, r13, r15, r17, r18, r19, r20, r21, r22]
  refine ⟨_, c_Mo_isPlayer, ?_⟩
  rintro _ _ ⟨rfl, rfl⟩
  try simp only [r0, r1_q, r2, r3, r4, r5_q, r7, r12, r13, r15, r17, r18, r19, r20, r21, r22]
  refine ⟨fun qc_1 => ?_, fun qc_1 => ?_⟩
  · replace qc_1 := zb_eq0.1 qc_1
    exact ⟨by rw [aReply, zite_f qc_1], MF.rf⟩
  · replace qc_1 := zb_ne0.1 qc_1
    have hpo : (1 - p = 0 ∨ 1 - p = 1) := by omega
    rw [iw_s (x := 1 - p) (by omega) (by omega)]
    refine ⟨h.s.o, _, c_Mo_lays h hpo hz1, ?_⟩
    rintro x5_q m6_q ⟨i6_q, f6_q, e6_q⟩
    subst i6_q
    have F6 : MF m m6_q := MF.of (fun c hc_q => f6_q c (by have := rM_in (1 - p); omega))
    have hm6 : MG kd m6_q G := h.mf F6
    refine ⟨fun qc_2 => ?_, fun qc_2 => ?_⟩
    · replace qc_2 := zb_ne0.1 qc_2
      have hto : 0 < G 0 := qc_2.1.1
      have hr1 : isRw G (1 - p) (m6_q (rM (1 - p))) := qc_2.rw (fun q q1_q q2_q => e6_q qc_2 q q1_q q2_q)
      have hga : 1 ≤ nA G p := by have := h.ok.tA hto p; omega
      refine ⟨h.s.o, _, c_Mo_replies hm6 qc_1 hto hr1, ?_⟩
      rintro m9_q ⟨f9_q, b9⟩
      have F9 : MF m m9_q := F6.tr (MF.of (fun c hc_q => f9_q c (by omega) (by have := rM_in p; omega)))
      have hm9 : MG kd m9_q G := h.mf F9
      have hrp : isRw G p (m9_q (rM p)) := fun q q1_q q2_q => by rw [b9 q q1_q q2_q]; exact bA_rw hga q q1_q q2_q
      refine ⟨h.s.o, _, c_Mo_toldOf hm9 qc_1 (rd9 h.ok hrp), ?_⟩
      rintro _ _ ⟨rfl, rfl⟩
      try simp only [r0, r1_q, r2, r3, r4, r5_q, r7, r12, r13, r15, r17, r18, r19, r20, r21, r22]
      refine ⟨?_, F9⟩
      rw [aReply, zite_t qc_1, zite_t qc_2]
      exact zhn_congr _ (fun q q1_q q2_q => by rw [b9 q q1_q (by omega)]; exact bA_congr (fun k k1_q k2_q => e6_q qc_2 k k1_q k2_q) q)
    · replace qc_2 := zb_eq0.1 (Classical.not_not.1 qc_2)
      exact ⟨by rw [aReply, zite_t qc_1, zite_f qc_2], F6⟩
