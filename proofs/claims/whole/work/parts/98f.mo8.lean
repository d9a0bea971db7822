/-! THE MODEL, eighth: orders, squares, parts -/
theorem lk_eq {G : GR} (ho : GOK G) {x y u v : Int} : lk G x y = lk G u v ↔ (gW G x y = gW G u v) ∧ zal (G 2) (fun a => zal (G 3) fun b => gV G x y a b = gV G u v a b) := by
  have h0 := ho.1
  unfold lk
  rw [lkA_eq ho]
  exact ⟨fun z => ⟨z.1, fun a a0_q a1_q b b0 b1 => z.2 a b a0_q (by omega) b0 b1⟩, fun z => ⟨z.1, fun a b a0_q a1_q b0 b1 => z.2 a a0_q (by omega) b b0 b1⟩⟩
theorem c_Mo_ordersOfBen : ∀ (t : Nat) {d : Nat} {kd : ZK} {m : ZM} {G : GR} {k u : Int}, MG kd m G → k + t = G 1 → 0 ≤ k → b32 u → (∀ q, 0 ≤ q → q < G 0 → 0 ≤ m 93 q ∧ m 93 q < G 0) → CtI (d + t + 5) M_Mo_ordersOfBen [(2, 78), (0, k), (0, u)] kd m (fun x m1_q => x = bSum (G 1) (lkL G (m 93)) t u ∧ ∀ e, e ≠ 94 → m1_q e = m e) := by
  intro t
  induction t with
  | zero =>
    intro d kd m G k u h hk k0_q hu hO
    have hq1 : nQ G 1 = G 1 := rfl
    refine S_Mo_ordersOfBen ⟨h.s.o, _, c_Mo_questions h (Or.inr rfl), ?_⟩
    rintro _ _ ⟨rfl, rfl⟩
    exact ⟨fun qc_1 => absurd (show k = nQ G 1 by omega) qc_1, fun _ => ⟨rfl, fun _ _ => rfl⟩⟩
  | succ t ih =>
    intro d kd m G k u h hk k0_q hu hO
    have hok := h.ok.1
    have hq0 : nQ G 0 = G 0 := rfl
    have hq1 : nQ G 1 = G 1 := rfl
    have ha0 : nA G 0 = G 2 := rfl
    have ha1 : nA G 1 = G 3 := rfl
    have hk5 : (t : Int) ≤ 4 := by omega
    have qL0 := zfor2 (G 1) (fun (y : Int) (mm : ZM) (s : Int) => Ev (d + (t + 1) + 5) M_Mo_ordersOfBen 0 0 16 [(2, 78), (0, k), (0, u), (0, s), (0, y), zJ, zJ] [] kd mm (zqI kd (fun x m1_q => x = bSum (G 1) (lkL G (m 93)) (t + 1) u ∧ ∀ e, e ≠ 94 → m1_q e = m e))) (fun (y : Int) (mm : ZM) (s : Int) => 0 ≤ y ∧ (∀ e, e ≠ 94 → mm e = m e) ∧ s = zsum y.toNat (fun z => zite (¬ sbit u z ∧ lkL G (m 93) k z) (bSum (G 1) (lkL G (m 93)) t (uor u z)) 0) ∧ 0 ≤ s ∧ s ≤ 625 * y) (by
      intro y mm s hb_q hI0 qKL0
      obtain ⟨hy0, hF, hs, s0_q, s1_q⟩ := hI0
      have hm_q : MG kd mm G := h.mf (MF.of (fun c hc_q => hF c (by omega)))
      have qL1 := zfor1 (G 0) (fun (x : Int) (w : Int) => Ev (d + (t + 1) + 5) M_Mo_ordersOfBen 0 0 45 [(2, 78), (0, k), (0, u), (0, s), (0, y), (0, w), (0, x)] [] kd mm (zqI kd (fun x m1_q => x = bSum (G 1) (lkL G (m 93)) (t + 1) u ∧ ∀ e, e ≠ 94 → m1_q e = m e))) (fun (x : Int) (w : Int) => (0 ≤ x ∧ y < G 1) ∧ w = zb (¬ sbit u y ∧ zal x (fun x => lk G x k = lk G (m 93 x) y))) (by
        intro x w hb_q hI1 qKL1
        obtain ⟨⟨hx0, hyl⟩, hw⟩ := hI1
        refine T_Mo_ordersOfBen_45 ?_
        try simp only [hm_q.s.r21]
        refine ⟨hm_q.s.o, _, c_Mo_questions hm_q (Or.inl rfl), ?_⟩
        rintro _ _ ⟨rfl, rfl⟩
        try simp only [hm_q.s.r21]
        refine ⟨fun qc_1 => ?_, fun qc_1 => ?_⟩
        · skip
          have hw84 : w = zb (¬ sbit u y ∧ lkL G (m 93) k y) := by
            rw [hw]
            refine zb_congr ⟨fun z => ⟨z.1, ?_⟩, fun z => ⟨z.1, fun i i0_q i1_q => z.2 i i0_q (by omega)⟩⟩
            first | exact fun i i0_q i1_q => z.2 i i0_q (by omega) | exact absurd (zb_t z) (by rw [← hw, qc_2]; decide)
          refine T_Mo_ordersOfBen_84 ?_
          try simp only [hm_q.s.r22]
          refine ⟨hm_q.s.o, ⟨5, hm_q.s.k94, by omega, by omega⟩, fun qc_5 => ?_, fun qc_5 => ?_⟩
          · rw [iw_s (x := s + 0) (by omega) (by omega), iw_s (x := y + 1) (by omega) (by omega)]
            exact qKL0 _ _ (by omega) ⟨by omega, fun e he => by rw [zup_off he]; exact hF e he, by rw [zsum_1 hy0, ← hs, zite_f (zb_eq0.1 (hw84.symm.trans qc_5))], by omega, by omega⟩
          · have hz := zb_ne0.1 (fun e_ => qc_5 (hw84.trans e_))
            have hm2 : MG kd (zup mm 94 k y) G := hm_q.mf (MF.of (fun c hc_q => zup_off (by omega)))
            rw [iw_s (x := k + 1) (by omega) (by omega)]
            refine ⟨hm_q.s.o, _, ih hm2 (by omega) (by omega) (uor_in hu ⟨by omega, by omega⟩) (fun q q0 q1_q => by rw [zup_off (by decide), hF 93 (by decide)]; exact hO q q0 q1_q), ?_⟩
            rintro xr mr ⟨hxr, fr⟩
            rw [zup_off (show (93 : Int) ≠ 94 by decide), hF 93 (by decide)] at hxr
            have hbr : 0 ≤ xr ∧ xr ≤ 625 := by
              rw [hxr]
              have := bSum_in (n := G 1) (L := lkL G (m 93)) ⟨by omega, by omega⟩ t (zor u (zshl 1 y))
              have := pw5_in4 t (by omega)
              omega
            rw [iw_s (x := s + xr) (by omega) (by omega), iw_s (x := y + 1) (by omega) (by omega)]
            exact qKL0 mr _ (by omega) ⟨by omega, fun e he => by rw [fr e he, zup_off he]; exact hF e he, by rw [zsum_1 hy0, ← hs, zite_t hz, hxr]; rfl, by omega, by omega⟩
        · skip
          refine ⟨fun qc_2 => ?_, fun qc_2 => ?_⟩
          · skip
            have hw84 : w = zb (¬ sbit u y ∧ lkL G (m 93) k y) := by
              rw [hw]
              refine zb_congr ⟨fun z => ⟨z.1, ?_⟩, fun z => ⟨z.1, fun i i0_q i1_q => z.2 i i0_q (by omega)⟩⟩
              first | exact fun i i0_q i1_q => z.2 i i0_q (by omega) | exact absurd (zb_t z) (by rw [← hw, qc_2]; decide)
            refine T_Mo_ordersOfBen_84 ?_
            try simp only [hm_q.s.r22]
            refine ⟨hm_q.s.o, ⟨5, hm_q.s.k94, by omega, by omega⟩, fun qc_5 => ?_, fun qc_5 => ?_⟩
            · rw [iw_s (x := s + 0) (by omega) (by omega), iw_s (x := y + 1) (by omega) (by omega)]
              exact qKL0 _ _ (by omega) ⟨by omega, fun e he => by rw [zup_off he]; exact hF e he, by rw [zsum_1 hy0, ← hs, zite_f (zb_eq0.1 (hw84.symm.trans qc_5))], by omega, by omega⟩
            · have hz := zb_ne0.1 (fun e_ => qc_5 (hw84.trans e_))
              have hm2 : MG kd (zup mm 94 k y) G := hm_q.mf (MF.of (fun c hc_q => zup_off (by omega)))
              rw [iw_s (x := k + 1) (by omega) (by omega)]
              refine ⟨hm_q.s.o, _, ih hm2 (by omega) (by omega) (uor_in hu ⟨by omega, by omega⟩) (fun q q0 q1_q => by rw [zup_off (by decide), hF 93 (by decide)]; exact hO q q0 q1_q), ?_⟩
              rintro xr mr ⟨hxr, fr⟩
              rw [zup_off (show (93 : Int) ≠ 94 by decide), hF 93 (by decide)] at hxr
              have hbr : 0 ≤ xr ∧ xr ≤ 625 := by
                rw [hxr]
                have := bSum_in (n := G 1) (L := lkL G (m 93)) ⟨by omega, by omega⟩ t (zor u (zshl 1 y))
                have := pw5_in4 t (by omega)
                omega
              rw [iw_s (x := s + xr) (by omega) (by omega), iw_s (x := y + 1) (by omega) (by omega)]
              exact qKL0 mr _ (by omega) ⟨by omega, fun e he => by rw [fr e he, zup_off he]; exact hF e he, by rw [zsum_1 hy0, ← hs, zite_t hz, hxr]; rfl, by omega, by omega⟩
          · skip
            refine ⟨hm_q.s.o, ⟨5, hm_q.s.k93, by omega, by omega⟩, ?_⟩
            refine ⟨hm_q.s.o, _, c_Mo_isAlike hm_q (by omega) (by omega) (by rw [hF 93 (by decide)]; have := hO x hx0 (by omega); omega) (by omega), ?_⟩
            rintro _ _ ⟨rfl, rfl⟩
            try simp only [hm_q.s.r21]
            rw [iw_s (x := x + 1) (by omega) (by omega)]
            refine qKL1 _ (by omega) ⟨⟨by omega, hyl⟩, ?_⟩
            have hz := zb_ne0.1 (fun e_ => qc_2 (hw.trans e_))
            have hO' := hO x hx0 (by omega)
            rw [hF 93 (by decide)]
            refine zb_congr ⟨fun z => ⟨hz.1, (zal_s hx0).2 ⟨hz.2, (lk_eq h.ok).2 z⟩⟩, fun z => (lk_eq h.ok).1 ((zal_s hx0).1 z.2).2⟩)
      refine T_Mo_ordersOfBen_16 ?_
      refine ⟨hm_q.s.o, _, c_Mo_questions hm_q (Or.inr rfl), ?_⟩
      rintro _ _ ⟨rfl, rfl⟩
      refine ⟨fun qc_1 => ?_, fun qc_1 => ?_⟩
      · skip
        refine ⟨?_, hF⟩
        rw [hs, bSum, show y = G 1 by omega, show G 1 - ((t : Int) + 1) = k by omega]
      · skip
        refine ⟨fun qc_2 => ?_, fun qc_2 => ?_⟩
        · skip
          first | exact qL1 0 0 (by omega) ⟨⟨by decide, by omega⟩, (zbF (fun z => qc_2 ((sbit_01 hu ⟨hy0, by omega⟩).1 z.1)))⟩ | exact qL1 0 1 (by omega) ⟨⟨by decide, by omega⟩, (zbT ⟨(sbit_01 hu ⟨hy0, by omega⟩).2 (Classical.not_not.1 qc_2), zal_0 _⟩)⟩
        · skip
          first | exact qL1 0 0 (by omega) ⟨⟨by decide, by omega⟩, (zbF (fun z => qc_2 ((sbit_01 hu ⟨hy0, by omega⟩).1 z.1)))⟩ | exact qL1 0 1 (by omega) ⟨⟨by decide, by omega⟩, (zbT ⟨(sbit_01 hu ⟨hy0, by omega⟩).2 (Classical.not_not.1 qc_2), zal_0 _⟩)⟩)
    refine S_Mo_ordersOfBen ⟨h.s.o, _, c_Mo_questions h (Or.inr rfl), ?_⟩
    rintro _ _ ⟨rfl, rfl⟩
    refine ⟨fun qc_1 => ?_, fun qc_1 => absurd (Classical.not_not.1 qc_1) (by omega)⟩
    exact qL0 0 m 0 (by omega) ⟨by decide, fun _ _ => rfl, rfl, by decide, by decide⟩
theorem oSum_congr {n : Int} {F : (Int → Int) → Int} (hF : ∀ o p : Int → Int, (∀ q, 0 ≤ q → q < n → o q = p q) → F o = F p) : ∀ (k : Nat) (u : Int) (o p : Int → Int), (∀ q, 0 ≤ q → q < n - k → o q = p q) → oSum n F k u o = oSum n F k u p := by
  intro k
  induction k with
  | zero => intro u o p h; exact hF o p (fun q q0 q1_q => h q q0 (by omega))
  | succ k ih =>
    intro u o p h
    rw [oSum, oSum]
    refine zsum_congr _ (fun x _ _ => ?_)
    rw [ih (uor u x) (zput o (n - (k + 1)) x) (zput p (n - (k + 1)) x) (fun q q0 q1_q => by
      unfold zput
      rcases Classical.em (q = n - ((k : Int) + 1)) with e | e
      · rw [if_pos e, if_pos e]
      · rw [if_neg e, if_neg e]; exact h q q0 (by omega))]
theorem oSum_in {G : GR} (ho : GOK G) (hn : 0 ≤ G 0 ∧ G 0 ≤ 5) : ∀ (k : Nat) (u : Int) (o : Int → Int), (k : Int) ≤ 4 → 0 ≤ oSum (G 0) (benN G) k u o ∧ oSum (G 0) (benN G) k u o ≤ 2000000 := by
  have h0 := ho.1
  have hb_q : ∀ o, 0 ≤ benN G o ∧ benN G o ≤ 3125 := fun o => by
    have a := bSum_in (n := G 1) (L := lkL G o) h0.2.1 (G 1).toNat 0
    have b := pw5_in (G 1).toNat (by omega)
    unfold benN
    omega
  have key : ∀ (k : Nat) (u : Int) (o : Int → Int), 0 ≤ oSum (G 0) (benN G) k u o ∧ oSum (G 0) (benN G) k u o ≤ 3125 * 5 ^ k := by
    intro k
    induction k with
    | zero => intro u o; have := hb_q o; show 0 ≤ benN G o ∧ benN G o ≤ 3125 * 5 ^ 0; omega
    | succ k ih =>
      intro u o
      rw [oSum]
      have hp : (0 : Int) < 5 ^ k := Int.pow_pos (by decide)
      have := zsum_le (C := 3125 * 5 ^ k) (f := fun x => zite (¬ sbit u x) (oSum (G 0) (benN G) k (uor u x) (zput o (G 0 - (k + 1)) x)) 0) (by omega) (fun x => by
        have := ih (uor u x) (zput o (G 0 - (k + 1)) x)
        rcases Classical.em (¬ sbit u x) with q | q
        · rw [zite_t q]; exact this
        · rw [zite_f q]; omega) (G 0).toNat
      rw [Int.pow_succ, ← Int.mul_assoc]
      have hA0 : (0 : Int) ≤ 3125 * 5 ^ k := by omega
      generalize (3125 : Int) * 5 ^ k = A at *
      have hA : A * ((G 0).toNat : Int) ≤ A * 5 := Int.mul_le_mul_of_nonneg_left (by omega) (by omega)
      omega
  intro k u o hk
  have h1 := key k u o
  have h2 := pw5_in4 k (by omega)
  omega
theorem c_Mo_ordersOfAnn : ∀ (t : Nat) {d : Nat} {kd : ZK} {m : ZM} {G : GR} {k u : Int}, MG kd m G → k + t = G 0 → 0 ≤ k → b32 u → (∀ q, 0 ≤ q → q < k → 0 ≤ m 93 q ∧ m 93 q < G 0) → CtI (d + t + 13) M_Mo_ordersOfAnn [(2, 78), (0, k), (0, u)] kd m (fun x m1_q => x = oSum (G 0) (benN G) t u (m 93) ∧ (∀ e, e ≠ 93 → e ≠ 94 → m1_q e = m e) ∧ ∀ q, q < k → m1_q 93 q = m 93 q) := by
  intro t
  induction t with
  | zero =>
    intro d kd m G k u h hk k0_q hu hO
    have hok := h.ok.1
    have hq0 : nQ G 0 = G 0 := rfl
    refine S_Mo_ordersOfAnn ⟨h.s.o, _, c_Mo_questions h (Or.inl rfl), ?_⟩
    rintro _ _ ⟨rfl, rfl⟩
    refine ⟨fun qc_1 => absurd (show k = nQ G 0 by omega) qc_1, fun _ => ?_⟩
    have hc_q := c_Mo_ordersOfBen (G 1).toNat (d := d + 7 - (G 1).toNat) (u := 0) h (k := 0) (by omega) (by decide) (by unfold b32; omega) (fun q q0 q1_q => hO q q0 (by omega))
    rw [show d + 7 - (G 1).toNat + (G 1).toNat + 5 = d + 12 by omega] at hc_q
    refine ⟨h.s.o, _, hc_q, ?_⟩
    rintro x m1_q ⟨hx, fx⟩
    exact ⟨hx, fun e _ e2_q => fx e e2_q, fun q _ => by rw [fx 93 (by decide)]⟩
  | succ t ih =>
    intro d kd m G k u h hk k0_q hu hO
    have hok := h.ok.1
    have hq0 : nQ G 0 = G 0 := rfl
    have hq1 : nQ G 1 = G 1 := rfl
    have ha0 : nA G 0 = G 2 := rfl
    have ha1 : nA G 1 = G 3 := rfl
    have hn5 := hok.1
    have qL0 := zfor2 (G 0) (fun (y : Int) (mm : ZM) (s : Int) => Ev (d + (t + 1) + 13) M_Mo_ordersOfAnn 0 0 21 [(2, 78), (0, k), (0, u), (0, s), (0, y)] [] kd mm (zqI kd (fun x m1_q => x = oSum (G 0) (benN G) (t + 1) u (m 93) ∧ (∀ e, e ≠ 93 → e ≠ 94 → m1_q e = m e) ∧ ∀ q, q < k → m1_q 93 q = m 93 q))) (fun (y : Int) (mm : ZM) (s : Int) => 0 ≤ y ∧ ((∀ e, e ≠ 93 → e ≠ 94 → mm e = m e) ∧ ∀ q, q < k → mm 93 q = m 93 q) ∧ s = zsum y.toNat (fun z => zite (¬ sbit u z) (oSum (G 0) (benN G) t (uor u z) (zput (m 93) k z)) 0) ∧ 0 ≤ s ∧ s ≤ 2000000 * y) (by
      intro y mm s hb_q hI0 qKL0
      obtain ⟨hy0, ⟨hF, hG⟩, hs, s0_q, s1_q⟩ := hI0
      have hm_q : MG kd mm G := h.mf (MF.of (fun c hc_q => hF c (by omega) (by omega)))
      have x1_q := zsum_1 hy0 (fun z => zite (¬ sbit u z) (oSum (G 0) (benN G) t (uor u z) (zput (m 93) k z)) 0)
      try simp only [] at x1_q
      refine T_Mo_ordersOfAnn_21 ?_
      try simp only [hm_q.s.r21]
      refine ⟨hm_q.s.o, _, c_Mo_questions hm_q (Or.inl rfl), ?_⟩
      rintro _ _ ⟨rfl, rfl⟩
      try simp only [hm_q.s.r21]
      refine ⟨fun qc_1 => ?_, fun qc_1 => ?_⟩
      · skip
        refine ⟨?_, hF, hG⟩
        rw [hs, oSum, show y = G 0 by omega, show G 0 - ((t : Int) + 1) = k by omega]
      · skip
        refine ⟨fun qc_2 => ?_, fun qc_2 => ?_⟩
        · skip
          refine ⟨hm_q.s.o, ⟨5, hm_q.s.k93, by omega, by omega⟩, ?_⟩
          have hm2 : MG kd (zup mm 93 k y) G := hm_q.mf (MF.of (fun c hc_q => zup_off (by omega)))
          have hO2 : ∀ q, 0 ≤ q → q < k + 1 → 0 ≤ (zup mm 93 k y) 93 q ∧ (zup mm 93 k y) 93 q < G 0 := fun q q0 q1_q => by
            rw [zup_at]
            rcases Classical.em (q = k) with e | e
            · rw [e, gup_at]; omega
            · rw [gup_off e, hG q (by omega)]; exact hO q q0 (by omega)
          rw [iw_s (x := k + 1) (by omega) (by omega)]
          refine ⟨hm_q.s.o, _, ih (k := k + 1) (u := zor u (zshl 1 y)) hm2 (by omega) (by omega) (uor_in hu ⟨hy0, by omega⟩) hO2, ?_⟩
          rintro x5_q m6_q ⟨hxr, fr, gr⟩
          rw [zup_at] at hxr
          have hcg : oSum (G 0) (benN G) t (zor u (zshl 1 y)) (gup (mm 93) k y) = oSum (G 0) (benN G) t (uor u y) (zput (m 93) k y) := oSum_congr (fun _ _ e => benN_congr e) t _ _ _ (fun q q0 q1_q => by
            rcases Classical.em (q = k) with e | e
            · rw [e, gup_at]; unfold zput; rw [if_pos rfl]
            · rw [gup_off e, hG q (by omega)]; unfold zput; rw [if_neg e])
          rw [hcg] at hxr
          have hbr : 0 ≤ x5_q ∧ x5_q ≤ 2000000 := by rw [hxr]; exact oSum_in h.ok hn5 t _ _ (by omega)
          first | (rw [iw_s (x := s + x5_q) (by omega) (by omega), iw_s (x := y + 1) (by omega) (by omega)]; rw [zite_t (show ¬ sbit u y from qc_2)] at x1_q; exact qKL0 _ _ (by omega) ⟨by omega, ⟨fun e e1_q e2_q => by rw [fr e e1_q e2_q, zup_off e1_q]; exact hF e e1_q e2_q, fun q q1_q => by rw [gr q (by omega), zup_at, gup_off (by omega)]; exact hG q q1_q⟩, by rw [x1_q, ← hs, hxr], by omega, by omega⟩) | (rw [iw_s (x := y + 1) (by omega) (by omega)]; rw [zite_f (show ¬ ¬ sbit u y from qc_2), Int.add_zero] at x1_q; exact qKL0 _ _ (by omega) ⟨by omega, ⟨hF, hG⟩, by rw [x1_q]; exact hs, by omega, by omega⟩)
        · skip
          first | (rw [iw_s (x := s + x5_q) (by omega) (by omega), iw_s (x := y + 1) (by omega) (by omega)]; rw [zite_t (show ¬ sbit u y from qc_2)] at x1_q; exact qKL0 _ _ (by omega) ⟨by omega, ⟨fun e e1_q e2_q => by rw [fr e e1_q e2_q, zup_off e1_q]; exact hF e e1_q e2_q, fun q q1_q => by rw [gr q (by omega), zup_at, gup_off (by omega)]; exact hG q q1_q⟩, by rw [x1_q, ← hs, hxr], by omega, by omega⟩) | (rw [iw_s (x := y + 1) (by omega) (by omega)]; rw [zite_f (show ¬ ¬ sbit u y from qc_2), Int.add_zero] at x1_q; exact qKL0 _ _ (by omega) ⟨by omega, ⟨hF, hG⟩, by rw [x1_q]; exact hs, by omega, by omega⟩))
    refine S_Mo_ordersOfAnn ⟨h.s.o, _, c_Mo_questions h (Or.inl rfl), ?_⟩
    rintro _ _ ⟨rfl, rfl⟩
    refine ⟨fun qc_1 => ?_, fun qc_1 => absurd (Classical.not_not.1 qc_1) (by omega)⟩
    exact qL0 0 m 0 (by omega) ⟨by decide, ⟨fun _ _ _ => rfl, fun _ _ => rfl⟩, rfl, by decide, by decide⟩
theorem c_Mo_symmetries {d : Nat} {kd : ZK} {m : ZM} {G : GR} (h : MG kd m G) : CtI (d + 21) M_Mo_symmetries [(2, 78)] kd m (fun x m1_q => x = aSym G ∧ MF m m1_q) := by
  have hok := h.ok.1
  refine S_Mo_symmetries ⟨h.s.o, _, c_Mo_hasGame h, ?_⟩
  rintro _ _ ⟨rfl, rfl⟩
  refine ⟨fun qc_1 => ⟨by rw [aSym, zite_f (show ¬ told G from zb_eq0.1 qc_1)], MF.rf⟩, fun qc_1 => ?_⟩
  have hc_q := c_Mo_ordersOfAnn (G 0).toNat (d := d + 7 - (G 0).toNat) (u := 0) h (k := 0) (by omega) (by decide) (by unfold b32; omega) (fun q q0 q1_q => by omega)
  rw [show d + 7 - (G 0).toNat + (G 0).toNat + 13 = d + 20 by omega] at hc_q
  refine ⟨h.s.o, _, hc_q, ?_⟩
  rintro x m1_q ⟨hx, fx, _⟩
  refine ⟨?_, MF.of (fun c hc_q => fx c (by omega) (by omega))⟩
  rw [hx, aSym, zite_t (show told G from zb_ne0.1 qc_1), symN]
  exact oSum_congr (fun _ _ e => benN_congr e) _ _ _ _ (fun q q0 q1_q => by omega)
noncomputable def sqM (G : GR) (x p y z : Int) : Int := zite ((0 < gW G x y ∧ 0 < gW G x z) ∧ 0 < gW G p y ∧ 0 < gW G p z) (gS G x y * gS G x z * gS G p y * gS G p z) 0
theorem sg_bd (G : GR) (x p y z : Int) : -1 ≤ gS G x y * gS G x z * gS G p y * gS G p z ∧ gS G x y * gS G x z * gS G p y * gS G p z ≤ 1 := zmul_bd (A := 1) (B := 1) (zmul_bd (A := 1) (B := 1) (zmul_bd (A := 1) (B := 1) (gS_in x y) (gS_in x z)) (gS_in p y)) (gS_in p z)
theorem sgnW {W S : Int} (hW : 0 < W) (hS_q : -1 ≤ S ∧ S ≤ 1) : (isSq 0 (W * S) ↔ S ≠ 0) ∧ (isSq 1 (W * S) ↔ S = -1) := by
  unfold isSq
  rcases (show S = -1 ∨ S = 0 ∨ S = 1 by omega) with k | k | k
  · rw [k, Int.mul_neg, Int.mul_one]; omega
  · rw [k, Int.mul_zero]; omega
  · rw [k, Int.mul_one]; omega
theorem sq1_M {G : GR} (ho : GOK G) {x p y z : Int} : sq1 G x p 0 y z = zb (y < z ∧ sqM G x p y z ≠ 0) ∧ sq1 G x p 1 y z = zb (y < z ∧ sqM G x p y z = -1) := by
  have e : gZ G x y * gZ G p y * gZ G x z * gZ G p z = (gW G x y * gW G x z * gW G p y * gW G p z) * (gS G x y * gS G x z * gS G p y * gS G p z) := by
    unfold gZ
    simp only [Int.mul_assoc, Int.mul_left_comm, Int.mul_comm]
  have w1_q := ho.gW x y
  have w2_q := ho.gW x z
  have w3_q := ho.gW p y
  have w4_q := ho.gW p z
  unfold sq1
  rw [e]
  rcases Classical.em ((0 < gW G x y ∧ 0 < gW G x z) ∧ 0 < gW G p y ∧ 0 < gW G p z) with q | q
  · have hW : 0 < gW G x y * gW G x z * gW G p y * gW G p z := Int.mul_pos (Int.mul_pos (Int.mul_pos q.1.1 q.1.2) q.2.1) q.2.2
    have h2 := sgnW hW (sg_bd G x p y z)
    have hM_q : sqM G x p y z = gS G x y * gS G x z * gS G p y * gS G p z := zite_t q
    rw [hM_q]
    exact ⟨zb_congr (and_congr Iff.rfl h2.1), zb_congr (and_congr Iff.rfl h2.2)⟩
  · have hM_q : sqM G x p y z = 0 := zite_f q
    have hW : gW G x y * gW G x z * gW G p y * gW G p z = 0 := by
      rcases (show gW G x y = 0 ∨ gW G x z = 0 ∨ gW G p y = 0 ∨ gW G p z = 0 by omega) with k | k | k | k
      · rw [k, Int.zero_mul, Int.zero_mul, Int.zero_mul]
      · rw [k, Int.mul_zero, Int.zero_mul, Int.zero_mul]
      · rw [k, Int.mul_zero, Int.zero_mul]
      · rw [k, Int.mul_zero]
    rw [hM_q, hW, Int.zero_mul]
    unfold isSq
    exact ⟨zb_congr (by omega), zb_congr (by omega)⟩
theorem c_Mo_squareOf {d : Nat} {kd : ZK} {m : ZM} {G : GR} {x p y z : Int} (h : MG kd m G) (hx : 0 ≤ x ∧ x < 5) (hp : 0 ≤ p ∧ p < 5) (hy : 0 ≤ y ∧ y < 5) (hz : 0 ≤ z ∧ z < 5) : CtI (d + 6) M_Mo_squareOf [(2, 78), (0, x), (0, p), (0, y), (0, z)] kd m (qE m (sqM G x p y z)) := by
  have r0 := h.s.r0
  have r1_q := h.s.r1
  have r2 := h.s.r2
  have r3 := h.s.r3
  have r4 := h.s.r4
  have r5_q := h.s.r5
  have r7 := h.s.r7
  have r12 := h.s.r12
  have r13 := h.s.r13
  have r15 := h.s.r15
  have r17 := h.s.r17
  have r18 := h.s.r18
  have r19 := h.s.r19
  have r20 := h.s.r20
  have r21 := h.s.r21
  have r22 := h.s.r22
  refine S_Mo_squareOf ?_
  try simp only [r0, r1_q, r2, r3, r4, r5_q, r7, r12, r13, r15, r17, r18, r19, r20, r21, r22]
  refine ⟨h.s.o, _, c_Mo_weightOf h (by omega) (by omega), ?_⟩
  rintro _ _ ⟨rfl, rfl⟩
  try simp only [r0, r1_q, r2, r3, r4, r5_q, r7, r12, r13, r15, r17, r18, r19, r20, r21, r22]
  refine ⟨fun qc_1 => ?_, fun qc_1 => ?_⟩
  · skip
    refine T_Mo_squareOf_43 ⟨fun _ => ?_, fun qc_5 => absurd rfl qc_5⟩
    exact ⟨(zite_f (by omega)).symm, rfl⟩
  · skip
    refine ⟨h.s.o, _, c_Mo_weightOf h (by omega) (by omega), ?_⟩
    rintro _ _ ⟨rfl, rfl⟩
    try simp only [r0, r1_q, r2, r3, r4, r5_q, r7, r12, r13, r15, r17, r18, r19, r20, r21, r22]
    refine ⟨fun qc_2 => ?_, fun qc_2 => ?_⟩
    · skip
      refine T_Mo_squareOf_43 ⟨fun _ => ?_, fun qc_5 => absurd rfl qc_5⟩
      exact ⟨(zite_f (by omega)).symm, rfl⟩
    · skip
      refine ⟨h.s.o, _, c_Mo_weightOf h (by omega) (by omega), ?_⟩
      rintro _ _ ⟨rfl, rfl⟩
      try simp only [r0, r1_q, r2, r3, r4, r5_q, r7, r12, r13, r15, r17, r18, r19, r20, r21, r22]
      refine ⟨fun qc_3 => ?_, fun qc_3 => ?_⟩
      · skip
        refine T_Mo_squareOf_43 ⟨fun _ => ?_, fun qc_5 => absurd rfl qc_5⟩
        exact ⟨(zite_f (by omega)).symm, rfl⟩
      · skip
        refine ⟨h.s.o, _, c_Mo_weightOf h (by omega) (by omega), ?_⟩
        rintro _ _ ⟨rfl, rfl⟩
        try simp only [r0, r1_q, r2, r3, r4, r5_q, r7, r12, r13, r15, r17, r18, r19, r20, r21, r22]
        refine ⟨fun qc_4 => ?_, fun qc_4 => ?_⟩
        · skip
          refine T_Mo_squareOf_43 ⟨fun _ => ?_, fun qc_5 => absurd rfl qc_5⟩
          exact ⟨(zite_f (by omega)).symm, rfl⟩
        · skip
          refine T_Mo_squareOf_43 ⟨fun qc_5 => absurd qc_5 (by decide), fun _ => ?_⟩
          refine ⟨h.s.o, _, c_Mo_signOf h (by omega) (by omega), ?_⟩
          rintro _ _ ⟨rfl, rfl⟩
          refine ⟨h.s.o, _, c_Mo_signOf h (by omega) (by omega), ?_⟩
          rintro _ _ ⟨rfl, rfl⟩
          refine ⟨h.s.o, _, c_Mo_signOf h (by omega) (by omega), ?_⟩
          rintro _ _ ⟨rfl, rfl⟩
          refine ⟨h.s.o, _, c_Mo_signOf h (by omega) (by omega), ?_⟩
          rintro _ _ ⟨rfl, rfl⟩
          have b1 := zmul_bd (A := 1) (B := 1) (gS_in (G := G) x y) (gS_in (G := G) x z)
          have b2 := zmul_bd (A := 1) (B := 1) b1 (gS_in (G := G) p y)
          have b3 := sg_bd G x p y z
          rw [iw_s (x := gS G x y * gS G x z) (by omega) (by omega), iw_s (x := gS G x y * gS G x z * gS G p y) (by omega) (by omega), iw_s (by omega) (by omega)]
          exact ⟨(zite_t (by omega)).symm, rfl⟩
theorem zsum_lo {f : Int → Int} {x : Int} {n : Nat} (h : (n : Int) ≤ x + 1) : zsum n (fun p => zite (x < p) (f p) 0) = 0 := zsum_zero _ (fun i _ i1_q => zite_f (by omega))
theorem sq1_lo {G : GR} {x p c y : Int} {n : Nat} (h : (n : Int) ≤ y + 1) : zsum n (fun z => sq1 G x p c y z) = 0 := zsum_zero _ (fun i _ i1_q => zb_f (fun q => by have := q.1; omega))
theorem sq1_01 (G : GR) (x p c y z : Int) : 0 ≤ sq1 G x p c y z ∧ sq1 G x p c y z ≤ 1 := zb_01
theorem c_Mo_bias {d : Nat} {kd : ZK} {m : ZM} {G : GR} {w : Int} (h : MG kd m G) : CtI (d + 7) M_Mo_bias [(2, 78), (0, w)] kd m (fun v m1_q => pBias G w v ∧ MF m m1_q) := by
  have r0 := h.s.r0
  have r1_q := h.s.r1
  have r2 := h.s.r2
  have r3 := h.s.r3
  have r4 := h.s.r4
  have r5_q := h.s.r5
  have r7 := h.s.r7
  have r12 := h.s.r12
  have r13 := h.s.r13
  have r15 := h.s.r15
  have r17 := h.s.r17
  have r18 := h.s.r18
  have r19 := h.s.r19
  have r20 := h.s.r20
  have r21 := h.s.r21
  have r22 := h.s.r22
  have hok := h.ok.1
  have hq0 : nQ G 0 = G 0 := rfl
  have hq1 : nQ G 1 = G 1 := rfl
  have ha0 : nA G 0 = G 2 := rfl
  have ha1 : nA G 1 = G 3 := rfl
  have key : told G → isPG G → w = 1 ∨ w = 2 → Ev (d + 7) M_Mo_bias 0 0 55 [(2, 78), (0, w), (0, 0), (0, 0), (0, 0), zJ, zJ, zJ, zJ] [] kd m (zqI kd (fun v m1_q => pBias G w v ∧ MF m m1_q)) := by
    intro ht hpg hw
    have qL0 := zfor2 (G 0) (fun (x : Int) (s0_q : Int) (t0_q : Int) => Ev (d + 7) M_Mo_bias 0 0 55 [(2, 78), (0, w), (0, s0_q), (0, t0_q), (0, x), zJ, zJ, zJ, zJ] [] kd m (zqI kd (fun v m1_q => pBias G w v ∧ MF m m1_q))) (fun (x : Int) (s0_q : Int) (t0_q : Int) => 0 ≤ x ∧ (s0_q = 0 + zsum x.toNat (fun x => zsum (G 0).toNat (fun p => zite (x < p) (sq2 G x p 0) 0)) ∧ t0_q = 0 + zsum x.toNat (fun x => zsum (G 0).toNat (fun p => zite (x < p) (sq2 G x p 1) 0))) ∧ (0 ≤ s0_q ∧ s0_q ≤ 0 + 125 * x) ∧ 0 ≤ t0_q ∧ t0_q ≤ 0 + 125 * x) (by
      intro x s0_q t0_q hb_q hI0 qKL0
      obtain ⟨hx0, ⟨es0, et0⟩, ⟨a0_q, b0⟩, a0', b0'⟩ := hI0
      have qL1 := zfor2 (G 0) (fun (p : Int) (s1_q : Int) (t1_q : Int) => Ev (d + 7) M_Mo_bias 0 0 71 [(2, 78), (0, w), (0, s1_q), (0, t1_q), (0, x), (0, p), zJ, zJ, zJ] [] kd m (zqI kd (fun v m1_q => pBias G w v ∧ MF m m1_q))) (fun (p : Int) (s1_q : Int) (t1_q : Int) => x + 1 ≤ p ∧ x < G 0 ∧ (s1_q = s0_q + zsum p.toNat (fun p => zite (x < p) (sq2 G x p 0) 0) ∧ t1_q = t0_q + zsum p.toNat (fun p => zite (x < p) (sq2 G x p 1) 0)) ∧ (s0_q ≤ s1_q ∧ s1_q ≤ s0_q + 25 * p) ∧ t0_q ≤ t1_q ∧ t1_q ≤ t0_q + 25 * p) (by
        intro p s1_q t1_q hb_q hI1 qKL1
        obtain ⟨hp0, hxl, ⟨es1, et1⟩, ⟨a1_q, b1⟩, a1', b1'⟩ := hI1
        have qL2 := zfor2 (G 1) (fun (y : Int) (s2_q : Int) (t2_q : Int) => Ev (d + 7) M_Mo_bias 0 0 84 [(2, 78), (0, w), (0, s2_q), (0, t2_q), (0, x), (0, p), (0, y), zJ, zJ] [] kd m (zqI kd (fun v m1_q => pBias G w v ∧ MF m m1_q))) (fun (y : Int) (s2_q : Int) (t2_q : Int) => 0 ≤ y ∧ (x < p ∧ p < G 0) ∧ (s2_q = s1_q + zsum y.toNat (fun y => zsum (G 1).toNat (fun z => sq1 G x p 0 y z)) ∧ t2_q = t1_q + zsum y.toNat (fun y => zsum (G 1).toNat (fun z => sq1 G x p 1 y z))) ∧ (s1_q ≤ s2_q ∧ s2_q ≤ s1_q + 5 * y) ∧ t1_q ≤ t2_q ∧ t2_q ≤ t1_q + 5 * y) (by
          intro y s2_q t2_q hb_q hI2 qKL2
          obtain ⟨hy0, hpl, ⟨es2, et2⟩, ⟨a2, b2⟩, a2', b2'⟩ := hI2
          have qL3 := zfor2 (G 1) (fun (z : Int) (s3_q : Int) (t3_q : Int) => Ev (d + 7) M_Mo_bias 0 0 100 [(2, 78), (0, w), (0, s3_q), (0, t3_q), (0, x), (0, p), (0, y), (0, z), zJ] [] kd m (zqI kd (fun v m1_q => pBias G w v ∧ MF m m1_q))) (fun (z : Int) (s3_q : Int) (t3_q : Int) => y + 1 ≤ z ∧ (x < p ∧ p < G 0 ∧ y < G 1) ∧ (s3_q = s2_q + zsum z.toNat (fun z => sq1 G x p 0 y z) ∧ t3_q = t2_q + zsum z.toNat (fun z => sq1 G x p 1 y z)) ∧ (s2_q ≤ s3_q ∧ s3_q ≤ s2_q + 1 * z) ∧ t2_q ≤ t3_q ∧ t3_q ≤ t2_q + 1 * z) (by
            intro z s3_q t3_q hb_q hI3 qKL3
            obtain ⟨hz0, hyl, ⟨es3, et3⟩, ⟨a3, b3⟩, a3', b3'⟩ := hI3
            refine T_Mo_bias_100 ?_
            try simp only [r0, r1_q, r2, r3, r4, r5_q, r7, r12, r13, r15, r17, r18, r19, r20, r21, r22]
            refine ⟨h.s.o, _, c_Mo_questions h (Or.inr rfl), ?_⟩
            rintro _ _ ⟨rfl, rfl⟩
            try simp only [r0, r1_q, r2, r3, r4, r5_q, r7, r12, r13, r15, r17, r18, r19, r20, r21, r22]
            refine ⟨fun qc_1 => ?_, fun qc_1 => ?_⟩
            · skip
              rw [iw_s (x := y + 1) (by omega) (by omega)]
              exact qKL2 s3_q t3_q (by omega) ⟨by omega, ⟨by omega, by omega⟩, ⟨by rw [zsum_1 hy0, es3, es2, show z = G 1 by omega]; omega, by rw [zsum_1 hy0, et3, et2, show z = G 1 by omega]; omega⟩, ⟨by omega, by omega⟩, by omega, by omega⟩
            · skip
              refine ⟨h.s.o, _, c_Mo_squareOf h (by omega) (by omega) (by omega) (by omega), ?_⟩
              rintro _ _ ⟨rfl, rfl⟩
              try simp only [r0, r1_q, r2, r3, r4, r5_q, r7, r12, r13, r15, r17, r18, r19, r20, r21, r22]
              refine ⟨fun qc_2 => ?_, fun qc_2 => ?_⟩
              · skip
                have hq0 : sq1 G x p 0 y z = 0 := by rw [(sq1_M h.ok).1]; exact zb_f (fun q => q.2 qc_2)
                have xa := zsum_1 (i := z) (by omega) (fun z => sq1 G x p 0 y z)
                have xb := zsum_1 (i := z) (by omega) (fun z => sq1 G x p 1 y z)
                try simp only [] at xa xb
                rw [hq0] at xa
                refine T_Mo_bias_135 ⟨_, c_Mo_truth, ?_⟩
                rintro _ _ ⟨rfl, rfl⟩
                rw [if_pos rfl]
                refine ⟨fun qc_3 => ?_, fun qc_3 => ?_⟩
                · have hq1 : sq1 G x p 1 y z = 0 := by rw [(sq1_M h.ok).2]; exact zb_f (fun q => qc_3 q.2)
                  rw [hq1] at xb
                  refine ⟨_, c_Mo_truth, ?_⟩
                  rintro _ _ ⟨rfl, rfl⟩
                  rw [if_pos rfl, iw_s (x := s3_q + 0) (by omega) (by omega), iw_s (x := t3_q + 0) (by omega) (by omega), iw_s (x := z + 1) (by omega) (by omega)]
                  exact qKL3 _ _ (by omega) ⟨by omega, ⟨by omega, by omega, by omega⟩, ⟨by rw [xa]; omega, by rw [xb]; omega⟩, ⟨by omega, by omega⟩, by omega, by omega⟩
                · have hq1 : sq1 G x p 1 y z = 1 := by rw [(sq1_M h.ok).2]; exact zb_t ⟨by omega, Classical.not_not.1 qc_3⟩
                  rw [hq1] at xb
                  refine ⟨_, c_Mo_truth, ?_⟩
                  rintro _ _ ⟨rfl, rfl⟩
                  rw [if_neg (by decide), iw_s (x := s3_q + 0) (by omega) (by omega), iw_s (x := t3_q + 1) (by omega) (by omega), iw_s (x := z + 1) (by omega) (by omega)]
                  exact qKL3 _ _ (by omega) ⟨by omega, ⟨by omega, by omega, by omega⟩, ⟨by rw [xa]; omega, by rw [xb]; omega⟩, ⟨by omega, by omega⟩, by omega, by omega⟩
              · skip
                have hq0 : sq1 G x p 0 y z = 1 := by rw [(sq1_M h.ok).1]; exact zb_t ⟨by omega, qc_2⟩
                have xa := zsum_1 (i := z) (by omega) (fun z => sq1 G x p 0 y z)
                have xb := zsum_1 (i := z) (by omega) (fun z => sq1 G x p 1 y z)
                try simp only [] at xa xb
                rw [hq0] at xa
                refine T_Mo_bias_135 ⟨_, c_Mo_truth, ?_⟩
                rintro _ _ ⟨rfl, rfl⟩
                rw [if_neg (by decide)]
                refine ⟨fun qc_3 => ?_, fun qc_3 => ?_⟩
                · have hq1 : sq1 G x p 1 y z = 0 := by rw [(sq1_M h.ok).2]; exact zb_f (fun q => qc_3 q.2)
                  rw [hq1] at xb
                  refine ⟨_, c_Mo_truth, ?_⟩
                  rintro _ _ ⟨rfl, rfl⟩
                  rw [if_pos rfl, iw_s (x := s3_q + 1) (by omega) (by omega), iw_s (x := t3_q + 0) (by omega) (by omega), iw_s (x := z + 1) (by omega) (by omega)]
                  exact qKL3 _ _ (by omega) ⟨by omega, ⟨by omega, by omega, by omega⟩, ⟨by rw [xa]; omega, by rw [xb]; omega⟩, ⟨by omega, by omega⟩, by omega, by omega⟩
                · have hq1 : sq1 G x p 1 y z = 1 := by rw [(sq1_M h.ok).2]; exact zb_t ⟨by omega, Classical.not_not.1 qc_3⟩
                  rw [hq1] at xb
                  refine ⟨_, c_Mo_truth, ?_⟩
                  rintro _ _ ⟨rfl, rfl⟩
                  rw [if_neg (by decide), iw_s (x := s3_q + 1) (by omega) (by omega), iw_s (x := t3_q + 1) (by omega) (by omega), iw_s (x := z + 1) (by omega) (by omega)]
                  exact qKL3 _ _ (by omega) ⟨by omega, ⟨by omega, by omega, by omega⟩, ⟨by rw [xa]; omega, by rw [xb]; omega⟩, ⟨by omega, by omega⟩, by omega, by omega⟩)
          refine T_Mo_bias_84 ?_
          try simp only [r0, r1_q, r2, r3, r4, r5_q, r7, r12, r13, r15, r17, r18, r19, r20, r21, r22]
          refine ⟨h.s.o, _, c_Mo_questions h (Or.inr rfl), ?_⟩
          rintro _ _ ⟨rfl, rfl⟩
          try simp only [r0, r1_q, r2, r3, r4, r5_q, r7, r12, r13, r15, r17, r18, r19, r20, r21, r22]
          refine ⟨fun qc_1 => ?_, fun qc_1 => ?_⟩
          · skip
            rw [iw_s (x := p + 1) (by omega) (by omega)]
            exact qKL1 s2_q t2_q (by omega) ⟨by omega, by omega, ⟨by rw [zsum_1 (by omega), zite_t (show x < p by omega), es2, es1, show y = G 1 by omega]; unfold sq2; omega, by rw [zsum_1 (by omega), zite_t (show x < p by omega), et2, et1, show y = G 1 by omega]; unfold sq2; omega⟩, ⟨by omega, by omega⟩, by omega, by omega⟩
          · skip
            rw [iw_s (x := y + 1) (by omega) (by omega)]
            exact qL3 (y + 1) s2_q t2_q (by omega) ⟨by omega, ⟨by omega, by omega, by omega⟩, ⟨by rw [sq1_lo (by omega)]; omega, by rw [sq1_lo (by omega)]; omega⟩, ⟨by omega, by omega⟩, by omega, by omega⟩)
        refine T_Mo_bias_71 ?_
        try simp only [r0, r1_q, r2, r3, r4, r5_q, r7, r12, r13, r15, r17, r18, r19, r20, r21, r22]
        refine ⟨h.s.o, _, c_Mo_questions h (Or.inl rfl), ?_⟩
        rintro _ _ ⟨rfl, rfl⟩
        try simp only [r0, r1_q, r2, r3, r4, r5_q, r7, r12, r13, r15, r17, r18, r19, r20, r21, r22]
        refine ⟨fun qc_1 => ?_, fun qc_1 => ?_⟩
        · skip
          rw [iw_s (x := x + 1) (by omega) (by omega)]
          exact qKL0 s1_q t1_q (by omega) ⟨by omega, ⟨by rw [zsum_1 hx0, es1, es0, show p = G 0 by omega]; omega, by rw [zsum_1 hx0, et1, et0, show p = G 0 by omega]; omega⟩, ⟨by omega, by omega⟩, by omega, by omega⟩
        · skip
          exact qL2 0 s1_q t1_q (by omega) ⟨by decide, ⟨by omega, by omega⟩, ⟨by rw [zsum_0]; omega, by rw [zsum_0]; omega⟩, ⟨by omega, by omega⟩, by omega, by omega⟩)
      refine T_Mo_bias_55 ?_
      try simp only [r0, r1_q, r2, r3, r4, r5_q, r7, r12, r13, r15, r17, r18, r19, r20, r21, r22]
      refine ⟨h.s.o, _, c_Mo_questions h (Or.inl rfl), ?_⟩
      rintro _ _ ⟨rfl, rfl⟩
      try simp only [r0, r1_q, r2, r3, r4, r5_q, r7, r12, r13, r15, r17, r18, r19, r20, r21, r22]
      refine ⟨fun qc_1 => ?_, fun qc_1 => ?_⟩
      · skip
        refine ⟨fun qc_2 => ?_, fun qc_2 => ?_⟩
        · skip
          refine ⟨zcs_t ht (zcs_f (by omega) (zcs_t (by omega) (zcs_t hpg ⟨fun e => absurd e (by omega), fun e => ?_, fun e => ?_⟩))), MF.rf⟩
          · first | exact absurd e (by omega) | (rw [es0, show x = G 0 by omega, Int.zero_add]; rfl)
          · first | exact absurd e (by omega) | (rw [et0, show x = G 0 by omega, Int.zero_add]; rfl)
        · skip
          refine ⟨zcs_t ht (zcs_f (by omega) (zcs_t (by omega) (zcs_t hpg ⟨fun e => absurd e (by omega), fun e => ?_, fun e => ?_⟩))), MF.rf⟩
          · first | exact absurd e (by omega) | (rw [es0, show x = G 0 by omega, Int.zero_add]; rfl)
          · first | exact absurd e (by omega) | (rw [et0, show x = G 0 by omega, Int.zero_add]; rfl)
      · skip
        rw [iw_s (x := x + 1) (by omega) (by omega)]
        exact qL1 (x + 1) s0_q t0_q (by omega) ⟨by omega, by omega, ⟨by rw [zsum_lo (by omega)]; omega, by rw [zsum_lo (by omega)]; omega⟩, ⟨by omega, by omega⟩, by omega, by omega⟩)
    exact qL0 0 0 0 (by omega) ⟨by decide, ⟨rfl, rfl⟩, ⟨by decide, by decide⟩, by decide, by decide⟩
  refine S_Mo_bias ?_
  try simp only [r0, r1_q, r2, r3, r4, r5_q, r7, r12, r13, r15, r17, r18, r19, r20, r21, r22]
  refine ⟨h.s.o, _, c_Mo_hasGame h, ?_⟩
  rintro _ _ ⟨rfl, rfl⟩
  try simp only [r0, r1_q, r2, r3, r4, r5_q, r7, r12, r13, r15, r17, r18, r19, r20, r21, r22]
  refine ⟨fun qc_1 => ?_, fun qc_1 => ?_⟩
  · replace qc_1 := zb_eq0.1 qc_1
    exact ⟨zcs_f qc_1 rfl, MF.rf⟩
  · replace qc_1 := zb_ne0.1 qc_1
    have hto : 0 < G 0 := qc_1
    refine ⟨_, c_Mo_in, ?_⟩
    rintro _ _ ⟨rfl, rfl⟩
    try simp only [r0, r1_q, r2, r3, r4, r5_q, r7, r12, r13, r15, r17, r18, r19, r20, r21, r22]
    refine ⟨fun qc_2 => ?_, fun qc_2 => ?_⟩
    · replace qc_2 := zb_ne0.1 qc_2
      refine ⟨h.s.o, _, c_Mo_isParityGame h, ?_⟩
      rintro _ _ ⟨rfl, rfl⟩
      try simp only [r0, r1_q, r2, r3, r4, r5_q, r7, r12, r13, r15, r17, r18, r19, r20, r21, r22]
      refine ⟨fun qc_3 => ?_, fun qc_3 => ?_⟩
      · replace qc_3 := zb_ne0.1 qc_3
        refine ⟨fun qc_4 => ?_, fun qc_4 => ?_⟩
        · skip
          exact key qc_1 qc_3 (by omega)
        · skip
          refine ⟨h.s.o, _, c_Mo_mostWorth h hto, ?_⟩
          rintro x11 m12_q ⟨i12_q, f12_q⟩
          have F12 : MF m m12_q := MF.of (fun c hc_q => f12_q c (by omega) (by omega))
          have hm12 : MG kd m12_q G := h.mf F12
          refine ⟨h.s.o, _, c_Mo_allWeights hm12, ?_⟩
          rintro _ _ ⟨rfl, rfl⟩
          try simp only [r0, r1_q, r2, r3, r4, r5_q, r7, r12, r13, r15, r17, r18, r19, r20, r21, r22]
          have hb1 := isMx_in h.ok i12_q
          have hb2 := sW_in h.ok
          rw [iw_s (x := 2 * x11) (by omega) (by omega), iw_s (by omega) (by omega)]
          exact ⟨zcs_t qc_1 (zcs_f (by omega) (zcs_t qc_2.2 (zcs_t qc_3 ⟨fun _ => ⟨x11, i12_q, rfl⟩, fun e => absurd e (by omega), fun e => absurd e (by omega)⟩))), F12⟩
      · replace qc_3 := zb_eq0.1 (Classical.not_not.1 qc_3)
        exact ⟨zcs_t qc_1 (zcs_f (by omega) (zcs_t qc_2.2 (zcs_f qc_3 rfl))), MF.rf⟩
    · replace qc_2 := zb_eq0.1 (Classical.not_not.1 qc_2)
      exact ⟨zcs_t qc_1 (by rcases (show w < 0 ∨ (0 ≤ w ∧ ¬ w ≤ 2) by omega) with e | e; exact zcs_t e rfl; exact zcs_f (by omega) (zcs_f e.2 rfl)), MF.rf⟩
