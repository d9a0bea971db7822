/-! THE MODEL, sixth: the k-th of the best rows; climbs -/
theorem c_Mo_laysBest {d : Nat} {kd : ZK} {m : ZM} {G : GR} {k : Int} (h : MG kd m G) (ht : 0 < G 0) (hr : isRw G 0 (m 86)) (hk : 0 ≤ k ∧ k < tWays (G 0) (G 1) (G 3) (fP G 0) (m 86) 0) : CtV (d + 6) M_Mo_laysBest [(2, 78), (1, k)] kd m (fun m1_q => isTR (G 0) (G 1) (G 3) (fP G 0) (m 86) k (m1_q 87) ∧ ∀ e, e ≠ 88 → e ≠ 87 → m1_q e = m e) := by
  have r0 := h.s.r0
  have r1_q := h.s.r1
  have r2 := h.s.r2
  have r3 := h.s.r3
  have r4 := h.s.r4
  have r5_q := h.s.r5
  have r7 := h.s.r7
  have r12 := h.s.r12
  have r13 := h.s.r13
  have r15 := h.s.r15
  have r17 := h.s.r17
  have r18 := h.s.r18
  have r19 := h.s.r19
  have r20 := h.s.r20
  have r21 := h.s.r21
  have r22 := h.s.r22
  have hok := h.ok.1
  have hq0 : nQ G 0 = G 0 := rfl
  have hq1 : nQ G 1 = G 1 := rfl
  have ha0 : nA G 0 = G 2 := rfl
  have ha1 : nA G 1 = G 3 := rfl
  have hto : 0 < G 0 := ht
  have tA := fun p => h.ok.tA hto p
  have tQ := fun p => h.ok.tQ hto p
  have r0 := rM0
  have r1_q := rM1
  have tA1 := tA 1
  have tA10 := tA (1 - 0)
  have n10 : nQ G (1 - 0) = G 1 := rfl
  have a10 : nA G (1 - 0) = G 3 := rfl
  have h3 : 1 ≤ G 3 ∧ G 3 ≤ 4 := by omega
  have qL0 := zfor1 (G 1) (fun (y : Int) (mm : ZM) => Ev (d + 6) M_Mo_laysBest 0 0 13 [(2, 78), zJ, zJ, (1, (tLf (G 0) (G 1) (G 3) (fP G 0) (m 86) k y.toNat)), zJ, (1, (tWays (G 0) (G 1) (G 3) (fP G 0) (m 86) y)), zJ, (0, y), zJ, zJ, zJ, zJ] [] kd mm (zqV kd (fun m1_q => isTR (G 0) (G 1) (G 3) (fP G 0) (m 86) k (m1_q 87) ∧ ∀ e, e ≠ 88 → e ≠ 87 → m1_q e = m e))) (fun (y : Int) (mm : ZM) => 0 ≤ y ∧ (∀ e, e ≠ 88 → e ≠ 87 → mm e = m e) ∧ (y < G 1 → 0 ≤ tLf (G 0) (G 1) (G 3) (fP G 0) (m 86) k y.toNat ∧ tLf (G 0) (G 1) (G 3) (fP G 0) (m 86) k y.toNat < tWays (G 0) (G 1) (G 3) (fP G 0) (m 86) y) ∧ ∀ j, 0 ≤ j → j < y → isTA (G 0) (G 3) (fP G 0) (m 86) j (tLf (G 0) (G 1) (G 3) (fP G 0) (m 86) k j.toNat / tWays (G 0) (G 1) (G 3) (fP G 0) (m 86) (j + 1)) (mm 87 j)) (by
    intro y mm hb_q hI0 qKL0
    obtain ⟨hy0, hF, hlb, hX⟩ := hI0
    have hm_q : MG kd mm G := h.mf (MF.of (fun c hc_q => hF c (by omega) (by omega)))
    have e86 : mm (rM 0) = m 86 := hF 86 (by decide) (by decide)
    have hlf0 := fun hyl : y < G 1 => tLf_in hy0 hyl h3 (by omega) (hlb hyl)
    generalize hl_ : tLf (G 0) (G 1) (G 3) (fP G 0) (m 86) k y.toNat = l at *
    generalize ha_ : tWays (G 0) (G 1) (G 3) (fP G 0) (m 86) y = a at *
    replace hl_ := hl_.symm
    replace ha_ := ha_.symm
    refine T_Mo_laysBest_13 ?_
    refine ⟨hm_q.s.o, _, c_Mo_questions hm_q (Or.inr rfl), ?_⟩
    rintro _ _ ⟨rfl, rfl⟩
    refine ⟨fun qc_1 => ?_, fun qc_1 => ?_⟩
    · skip
      exact ⟨fun j j0 j1 => hX j j0 (by omega), hF⟩
    · skip
      refine ⟨hm_q.s.o, _, c_Mo_laysBy hm_q (Or.inl rfl) (by rw [e86]; exact hr) ⟨hy0, by omega⟩, ?_⟩
      rintro m6_q ⟨f6_q, b6⟩
      rw [e86] at b6
      have hm6 : MG kd m6_q G := hm_q.mf (MF.of (fun c hc_q => f6_q c (by omega)))
      have hw1 := tWays_in (nq := G 0) (f := fP G 0) (r := m 86) (g := y + 1) (ng := G 1) h3 ⟨by omega, by omega, by omega⟩
      have hw2 := tWays_in (nq := G 0) (f := fP G 0) (r := m 86) (g := y) (ng := G 1) h3 ⟨by omega, by omega, by omega⟩
      have htp := tTops_in (nq := G 0) (f := fP G 0) (r := m 86) (g := y) (nr := G 3) h3.1
      have hlf := hlf0 (by omega)
      have hlb1 := hlb (by omega)
      refine ⟨hm_q.s.o, _, c_Mo_bestBy hm6 (Or.inl rfl) b6 (by omega) (fun b _ _ => (wAt_in h.ok _ _ _ _).1), ?_⟩
      rintro _ _ ⟨rfl, rfl⟩
      rw [← tHi_w (p := 0) (Or.inl rfl) (by omega)]
      obtain ⟨w0_q, hw0⟩ : ∃ w0_q, w0_q = l / tWays (G 0) (G 1) (G 3) (fP G 0) (m 86) (y + 1) := ⟨_, rfl⟩
      rw [hl_] at hw0
      rw [hl_, ← hw0] at hlf
      have qL9 := zfor1 (G 3) (fun (b : Int) (m9_q : ZM) => Ev (d + 6) M_Mo_laysBest 0 0 107 [(2, 78), zJ, zJ, (1, (tLf (G 0) (G 1) (G 3) (fP G 0) (m 86) k (y + 1).toNat)), zJ, (1, (tWays (G 0) (G 1) (G 3) (fP G 0) (m 86) (y + 1))), zJ, (0, y), (0, (tHi (nQ G 0) (nA G (1 - 0)) (fP G 0) (m 86) y)), zJ, (0, (w0_q - zsum b.toNat (fun j => zb (isTop (G 0) (G 3) (fP G 0) (m 86) y j)))), (0, b)] [] kd m9_q (zqV kd (fun m1_q => isTR (G 0) (G 1) (G 3) (fP G 0) (m 86) k (m1_q 87) ∧ ∀ e, e ≠ 88 → e ≠ 87 → m1_q e = m e))) (fun (b : Int) (m9_q : ZM) => (0 ≤ b ∧ y < G 1) ∧ (∀ e, e ≠ 87 → m9_q e = m6_q e) ∧ (∀ j, j ≠ y → m9_q 87 j = m6_q 87 j) ∧ (w0_q < zsum b.toNat (fun j => zb (isTop (G 0) (G 3) (fP G 0) (m 86) y j)) → isTA (G 0) (G 3) (fP G 0) (m 86) y w0_q (m9_q 87 y))) (by
        intro b m9_q hb_q hI0 qKL9
        obtain ⟨⟨hb_, hyl⟩, hF9, hJ9, hT9⟩ := hI0
        have hm9 : MG kd m9_q G := hm6.mf (MF.of (fun c hc_q => hF9 c (by omega)))
        have x1_q := zsum_1 hb_ (fun j => zb (isTop (G 0) (G 3) (fP G 0) (m 86) y j))
        try simp only [] at x1_q
        have hs := zsum_le (C := 1) (f := (fun j => zb (isTop (G 0) (G 3) (fP G 0) (m 86) y j))) (by decide) (fun _ => zb_01) b.toNat
        have htop : b < G 3 → (isTop (G 0) (G 3) (fP G 0) (m 86) y b ↔ wAt G (1 - 0) y b (m 86) = tHi (nQ G 0) (nA G (1 - 0)) (fP G 0) (m 86) y) := fun q => by
          have e := zS_wAt (G := G) (p := 0) (o := y) (j := b) (r := m 86) (Or.inl rfl) ⟨hb_, q⟩
          rw [← e]
          exact Iff.rfl
        refine T_Mo_laysBest_107 ?_
        try simp only [hm9.s.r13, hm9.s.r15]
        refine ⟨hm9.s.o, _, c_Mo_answers hm9 (Or.inr rfl), ?_⟩
        rintro _ _ ⟨rfl, rfl⟩
        try simp only [hm9.s.r13, hm9.s.r15]
        refine ⟨fun qc_1 => ?_, fun qc_1 => ?_⟩
        · skip
          rw [iw_s (x := y + 1) (by omega) (by omega)]
          have hTT : zsum b.toNat (fun j => zb (isTop (G 0) (G 3) (fP G 0) (m 86) y j)) = tTops (G 0) (G 3) (fP G 0) (m 86) y := by rw [show b = G 3 by omega]; rfl
          refine qKL0 m9_q (by omega) ⟨by omega, fun e e1_q e2_q => by rw [hF9 e e2_q, f6_q e e1_q, hF e e1_q e2_q], fun _ => hlf.2, fun j j0 j1 => ?_⟩
          rcases (show j = y ∨ j < y by omega) with q | q
          · rw [q, ← hw0]; exact hT9 (by rw [hTT]; exact hlf.1.2)
          · rw [hJ9 j (by omega), f6_q 87 (by decide)]; exact hX j j0 q
        · skip
          refine ⟨hm9.s.o, ⟨4, hm9.s.k88, by omega, by omega⟩, ?_⟩
          refine ⟨fun qc_2 => ?_, fun qc_2 => ?_⟩
          · skip
            refine ⟨fun qc_3 => ?_, fun qc_3 => ?_⟩
            · skip
              rw [iw_s (x := b + 1) (by omega) (by omega)]
              have hc2 := qc_2
              rw [hF9 88 (by decide), b6 b hb_ (by omega)] at hc2
              have hw : isTop (G 0) (G 3) (fP G 0) (m 86) y b := (htop (by omega)).2 hc2
              rw [zb_t hw] at x1_q
              rw [iw_s (x := w0_q - zsum b.toNat (fun j => zb (isTop (G 0) (G 3) (fP G 0) (m 86) y j)) + -1) (by omega) (by omega), show w0_q - zsum b.toNat (fun j => zb (isTop (G 0) (G 3) (fP G 0) (m 86) y j)) + -1 = w0_q - zsum (b + 1).toNat (fun j => zb (isTop (G 0) (G 3) (fP G 0) (m 86) y j)) by omega]
              first | (refine qKL9 _ (by omega) ⟨⟨by omega, hyl⟩, hF9, hJ9, fun hlt => hT9 (by omega)⟩) | (refine qKL9 _ (by omega) ⟨⟨by omega, hyl⟩, fun e he => by rw [zup_off he]; exact hF9 e he, fun j hj => by rw [zup_nj hj]; exact hJ9 j hj, fun hlt => by rw [zup_self]; exact ⟨⟨hb_, by omega⟩, hw, by omega⟩⟩)
            · skip
              refine ⟨hm9.s.o, ⟨5, hm9.s.k87, by omega, by omega⟩, ?_⟩
              rw [iw_s (x := b + 1) (by omega) (by omega)]
              have hc2 := qc_2
              rw [hF9 88 (by decide), b6 b hb_ (by omega)] at hc2
              have hw : isTop (G 0) (G 3) (fP G 0) (m 86) y b := (htop (by omega)).2 hc2
              rw [zb_t hw] at x1_q
              rw [iw_s (x := w0_q - zsum b.toNat (fun j => zb (isTop (G 0) (G 3) (fP G 0) (m 86) y j)) + -1) (by omega) (by omega), show w0_q - zsum b.toNat (fun j => zb (isTop (G 0) (G 3) (fP G 0) (m 86) y j)) + -1 = w0_q - zsum (b + 1).toNat (fun j => zb (isTop (G 0) (G 3) (fP G 0) (m 86) y j)) by omega]
              first | (refine qKL9 _ (by omega) ⟨⟨by omega, hyl⟩, hF9, hJ9, fun hlt => hT9 (by omega)⟩) | (refine qKL9 _ (by omega) ⟨⟨by omega, hyl⟩, fun e he => by rw [zup_off he]; exact hF9 e he, fun j hj => by rw [zup_nj hj]; exact hJ9 j hj, fun hlt => by rw [zup_self]; exact ⟨⟨hb_, by omega⟩, hw, by omega⟩⟩)
          · skip
            rw [iw_s (x := b + 1) (by omega) (by omega)]
            have hc2 := qc_2
            rw [hF9 88 (by decide), b6 b hb_ (by omega)] at hc2
            have hw : ¬ isTop (G 0) (G 3) (fP G 0) (m 86) y b := fun z => hc2 ((htop (by omega)).1 z)
            rw [zb_f hw, Int.add_zero] at x1_q
            rw [← x1_q]
            exact qKL9 _ (by omega) ⟨⟨by omega, hyl⟩, hF9, hJ9, fun hlt => hT9 (by omega)⟩)
      have qL8 := zfor1 (G 3) (fun (b : Int) (s : Int) => Ev (d + 6) M_Mo_laysBest 0 0 43 [(2, 78), zJ, zJ, (1, l), zJ, (1, a), zJ, (0, y), (0, (tHi (nQ G 0) (nA G (1 - 0)) (fP G 0) (m 86) y)), (0, s), (0, b), zJ] [] kd m6_q (zqV kd (fun m1_q => isTR (G 0) (G 1) (G 3) (fP G 0) (m 86) k (m1_q 87) ∧ ∀ e, e ≠ 88 → e ≠ 87 → m1_q e = m e))) (fun (b : Int) (s : Int) => (0 ≤ b ∧ y < G 1) ∧ s = zsum b.toNat (fun j => zb (isTop (G 0) (G 3) (fP G 0) (m 86) y j)) ∧ 0 ≤ s ∧ s ≤ b) (by
        intro b s hb_q hI0 qKL8
        obtain ⟨⟨hb_, hyl⟩, hs, hs0, hs1⟩ := hI0
        have x1_q := zsum_1 hb_ (fun j => zb (isTop (G 0) (G 3) (fP G 0) (m 86) y j))
        try simp only [] at x1_q
        have htop : b < G 3 → (isTop (G 0) (G 3) (fP G 0) (m 86) y b ↔ wAt G (1 - 0) y b (m 86) = tHi (nQ G 0) (nA G (1 - 0)) (fP G 0) (m 86) y) := fun q => by
          have e := zS_wAt (G := G) (p := 0) (o := y) (j := b) (r := m 86) (Or.inl rfl) ⟨hb_, q⟩
          rw [← e]
          exact Iff.rfl
        refine T_Mo_laysBest_43 ?_
        try simp only [hm6.s.r13, hm6.s.r15]
        refine ⟨hm6.s.o, _, c_Mo_answers hm6 (Or.inr rfl), ?_⟩
        rintro _ _ ⟨rfl, rfl⟩
        try simp only [hm6.s.r13, hm6.s.r15]
        refine ⟨fun qc_1 => ?_, fun qc_1 => ?_⟩
        · skip
          have hsT : s = tTops (G 0) (G 3) (fP G 0) (m 86) y := by rw [hs, show b = G 3 by omega]; rfl
          have q1_q : lw64 (Int.tdiv a s) = tWays (G 0) (G 1) (G 3) (fP G 0) (m 86) (y + 1) := by
            rw [hsT, ha_, tWays_s hyl, Int.mul_comm, Int.mul_tdiv_cancel _ (by omega)]
            exact lw_s (by omega) (by omega)
          have q2_q : Int.tmod l (tWays (G 0) (G 1) (G 3) (fP G 0) (m 86) (y + 1)) = tLf (G 0) (G 1) (G 3) (fP G 0) (m 86) k (y + 1).toNat := by
            rw [hl_, Int.tmod_eq_emod_of_nonneg (by omega), tLf_1 hy0]
          have q3_q : iw (lw64 (Int.tdiv l (tWays (G 0) (G 1) (G 3) (fP G 0) (m 86) (y + 1)))) = w0_q - zsum (Int.toNat 0) (fun j => zb (isTop (G 0) (G 3) (fP G 0) (m 86) y j)) := by
            rw [hl_, Int.tdiv_eq_ediv_of_nonneg (by omega), zsum_0, Int.sub_zero, ← hw0, lw_s (by omega) (by omega), iw_s (by omega) (by omega)]
          rw [q1_q, q2_q, q3_q]
          refine ⟨by omega, by omega, by omega, ?_⟩
          exact qL9 0 m6_q (by omega) ⟨⟨by decide, hyl⟩, fun _ _ => rfl, fun _ _ => rfl, fun hlt => absurd hlt (by rw [zsum_0]; omega)⟩
        · skip
          refine ⟨hm6.s.o, ⟨4, hm6.s.k88, by omega, by omega⟩, ?_⟩
          refine ⟨fun qc_2 => ?_, fun qc_2 => ?_⟩
          · skip
            refine ⟨_, c_Mo_truth, ?_⟩
            rintro _ _ ⟨rfl, rfl⟩
            try simp only [hm6.s.r13, hm6.s.r15]
            rw [iw_s (x := b + 1) (by omega) (by omega)]
            have hc2 := qc_2
            rw [b6 b hb_ (by omega)] at hc2
            first | (rw [if_neg (by decide), iw_s (x := s + 1) (by omega) (by omega)]; rw [zb_t ((htop (by omega)).2 (Classical.not_not.1 hc2))] at x1_q; exact qKL8 _ (by omega) ⟨⟨by omega, hyl⟩, by rw [hs, x1_q], by omega, by omega⟩) | (rw [if_pos trivial, Int.add_zero, iw_s (x := s) (by omega) (by omega)]; rw [zb_f (fun z => hc2 ((htop (by omega)).1 z)), Int.add_zero] at x1_q; exact qKL8 _ (by omega) ⟨⟨by omega, hyl⟩, by rw [hs, x1_q], hs0, by omega⟩)
          · skip
            refine ⟨_, c_Mo_truth, ?_⟩
            rintro _ _ ⟨rfl, rfl⟩
            try simp only [hm6.s.r13, hm6.s.r15]
            rw [iw_s (x := b + 1) (by omega) (by omega)]
            have hc2 := qc_2
            rw [b6 b hb_ (by omega)] at hc2
            first | (rw [if_neg (by decide), iw_s (x := s + 1) (by omega) (by omega)]; rw [zb_t ((htop (by omega)).2 (Classical.not_not.1 hc2))] at x1_q; exact qKL8 _ (by omega) ⟨⟨by omega, hyl⟩, by rw [hs, x1_q], by omega, by omega⟩) | (rw [if_pos trivial, Int.add_zero, iw_s (x := s) (by omega) (by omega)]; rw [zb_f (fun z => hc2 ((htop (by omega)).1 z)), Int.add_zero] at x1_q; exact qKL8 _ (by omega) ⟨⟨by omega, hyl⟩, by rw [hs, x1_q], hs0, by omega⟩))
      exact qL8 0 0 (by omega) ⟨⟨by decide, by omega⟩, rfl, by decide, by decide⟩)
  refine S_Mo_laysBest ?_
  refine ⟨h.s.o, _, c_Mo_ways (lx := -1) (ly := -1) h hto hr (Or.inl rfl), ?_⟩
  rintro x2_q m3_q ⟨x3, f3_q⟩
  rw [wyc_0] at x3
  have hm3 : MG kd m3_q G := h.mf (MF.of (fun c hc_q => f3_q c (by omega)))
  rw [x3]
  exact qL0 0 m3_q (by omega) ⟨by decide, fun e e1_q e2_q => f3_q e e1_q, fun _ => hk, fun j j0 j1 => by omega⟩
theorem isTop_congr {nq nr : Int} {f : Int → Int → Int → Int} {r s : Int → Int} (h : ∀ q, 0 ≤ q → q < nq → r q = s q) (g j : Int) : isTop nq nr f r g j ↔ isTop nq nr f s g j := by
  unfold isTop tHi
  rw [zS_congr h, zhi_congr _ (fun j _ _ => zS_congr h _)]
theorem tTops_congr {nq nr : Int} {f : Int → Int → Int → Int} {r s : Int → Int} (h : ∀ q, 0 ≤ q → q < nq → r q = s q) (g : Int) : tTops nq nr f r g = tTops nq nr f s g := zsum_congr _ (fun j _ _ => zb_congr (isTop_congr h g j))
theorem tWays_congr {nq ng nr : Int} {f : Int → Int → Int → Int} {r s : Int → Int} (h : ∀ q, 0 ≤ q → q < nq → r q = s q) {g : Int} : tWays nq ng nr f r g = tWays nq ng nr f s g := zprd_congr _ (fun k _ _ => tTops_congr h _)
theorem tLf_congr {nq ng nr : Int} {f : Int → Int → Int → Int} {r s : Int → Int} (h : ∀ q, 0 ≤ q → q < nq → r q = s q) {k : Int} : ∀ n : Nat, tLf nq ng nr f r k n = tLf nq ng nr f s k n := by
  intro n
  induction n with
  | zero => rfl
  | succ n ih => rw [tLf, tLf, ih, tWays_congr h]
theorem isTR_congr {nq ng nr : Int} {f : Int → Int → Int → Int} {r s : Int → Int} (h : ∀ q, 0 ≤ q → q < nq → r q = s q) {k : Int} {t : Int → Int} (z : isTR nq ng nr f r k t) : isTR nq ng nr f s k t := fun g g0 g1 => by
  obtain ⟨a, b, e⟩ := z g g0 g1
  rw [tLf_congr h, tWays_congr h] at e
  exact ⟨a, (isTop_congr h _ _).1 b, by rw [← e]; exact zsum_congr _ (fun j _ _ => zb_congr (isTop_congr h _ _).symm)⟩
theorem c_Mo_best {d : Nat} {kd : ZK} {m : ZM} {G : GR} {k p : Int} (h : MG kd m G) (hz1 : zin32 k) : CtI (d + 7) M_Mo_best [(2, 78), (0, k), (0, p)] kd m (fun x m1_q => pBest G k p x ∧ MF m m1_q) := by
  have r0 := h.s.r0
  have r1_q := h.s.r1
  have r2 := h.s.r2
  have r3 := h.s.r3
  have r4 := h.s.r4
  have r5_q := h.s.r5
  have r7 := h.s.r7
  have r12 := h.s.r12
  have r13 := h.s.r13
  have r15 := h.s.r15
  have r17 := h.s.r17
  have r18 := h.s.r18
  have r19 := h.s.r19
  have r20 := h.s.r20
  have r21 := h.s.r21
  have r22 := h.s.r22
  have hok := h.ok.1
  have hq0 : nQ G 0 = G 0 := rfl
  have hq1 : nQ G 1 = G 1 := rfl
  have ha0 : nA G 0 = G 2 := rfl
  have ha1 : nA G 1 = G 3 := rfl
  unfold zin32 at hz1
  have key : told G → (p = 0 ∨ p = 1) → 0 ≤ k → ∀ u, isMx G u → ∀ mm0, MF m mm0 → (∀ j, 0 ≤ j → j < nQ G 0 → mm0 (rM 0) j = erow (nQ G 0) (nA G 0) 0 j) → Ev (d + 7) M_Mo_best 0 0 36 [(2, 78), (0, k), (0, p), (0, u), (1, 0), zJ, (0, 1), zJ, zJ] [] kd mm0 (zqI kd (fun x m1_q => pBest G k p x ∧ MF m m1_q)) := by
    intro ht hp hk0 u hu mm0 hF0 hE0
    have hto : 0 < G 0 := ht
    have tA := fun p => h.ok.tA hto p
    have tQ := fun p => h.ok.tQ hto p
    have r0 := rM0
    have r1_q := rM1
    have h34 : 1 ≤ G 3 ∧ G 3 ≤ 4 := by have := tA 1; omega
    have h15 : 0 ≤ G 1 ∧ G 1 ≤ 5 := by omega
    have hNb := (pw_in (na := nA G 0) (n := (nQ G 0).toNat) (by have := tA 0; omega) (by have := tQ 0; omega)).2
    have qL0 := zfor3 ((nA G 0 ^ (nQ G 0).toNat)) (fun (i : Int) (mm : ZM) (a : Int) (t : Int) => Ev (d + 7) M_Mo_best 0 0 36 [(2, 78), (0, k), (0, p), (0, u), (1, a), zJ, (0, t), zJ, zJ] [] kd mm (zqI kd (fun x m1_q => pBest G k p x ∧ MF m m1_q))) (fun (i : Int) (mm : ZM) (a : Int) (t : Int) => 0 ≤ i ∧ MF m mm ∧ a = zsum i.toNat (tT (G 0) (G 2) (G 1) (G 3) (fP G 0) u) ∧ a ≤ k ∧ t = zb (i < (nA G 0 ^ (nQ G 0).toNat)) ∧ (i < (nA G 0 ^ (nQ G 0).toNat) → ∀ j, 0 ≤ j → j < nQ G 0 → mm (rM 0) j = erow (nQ G 0) (nA G 0) i j)) (by
      intro i mm a t hb_q hI0 qKL0
      obtain ⟨hi_, hF, ha_, hak, ht_, hEE⟩ := hI0
      have hm_q : MG kd mm G := h.mf hF
      have htt := tT_in (nq := G 0) (na := G 2) (f := fP G 0) (u := u) (nr := G 3) (ng := G 1) h34 h15
      have hab := zsum_le (C := 1024) (f := (tT (G 0) (G 2) (G 1) (G 3) (fP G 0) u)) (by decide) htt i.toNat
      refine T_Mo_best_36 ?_
      refine ⟨fun qc_1 => ?_, fun qc_1 => ?_⟩
      · skip
        have hn : ¬ i < (nA G 0 ^ (nQ G 0).toNat) := zb_eq0.1 (ht_.symm.trans qc_1)
        exact ⟨zcs_t ht (zcs_t hp (zcs_t hk0 ⟨u, hu, Or.inr ⟨by rw [show G 2 ^ (G 0).toNat = i from (show (nA G 0 ^ (nQ G 0).toNat) = i by omega), ← ha_]; exact hak, rfl⟩⟩)), hF⟩
      · have hlt : i < (nA G 0 ^ (nQ G 0).toNat) := zb_ne0.1 (fun e_ => qc_1 (ht_.trans e_))
        refine ⟨hm_q.s.o, _, c_Mo_reached hm_q (Or.inl rfl) (rwE (by have := tA 0; omega) (hEE hlt)) (by have := tA (1 - 0); omega), ?_⟩
        rintro x2_q m3_q ⟨x3, f3_q⟩
        rw [if_neg (by decide)] at x3
        have F3 : MF mm m3_q := MF.of (fun c hc_q => f3_q c (by omega))
        have F3m : MF m m3_q := hF.tr F3
        have hm3 : MG kd m3_q G := hm_q.mf F3
        have hx : x2_q = hiH G i := by rw [x3]; exact tHigh_congr (hEE hlt)
        have hE3 : ∀ j, 0 ≤ j → j < nQ G 0 → m3_q (rM 0) j = erow (nQ G 0) (nA G 0) i j := fun j j0 j1 => by rw [f3_q (rM 0) (by decide)]; exact hEE hlt j j0 j1
        refine ⟨fun qc_2 => ?_, fun qc_2 => ?_⟩
        · skip
          have hv : tT (G 0) (G 2) (G 1) (G 3) (fP G 0) u i = 0 := zite_f (fun e => qc_2 (by rw [hx]; exact e))
          have htb := htt i
          have hcm : lw64 (a + 0) = a + 0 := lw_s (by omega) (by omega)
          refine T_Mo_best_61 ?_
          rw [hcm]
          refine ⟨fun qc_3 => ?_, fun qc_3 => ?_⟩
          · have hle : a + 0 ≤ k := by
              have := zcmp_l (x := k) (y := a + 0)
              omega
            refine ⟨hm3.s.o, _, c_Mo_goesOn (c := i) hm3 (Or.inl rfl) (by have := tA 0; omega) hE3 ⟨hi_, hlt⟩, ?_⟩
            rintro xg mg ⟨xg_, eg, fg⟩
            exact qKL0 mg _ _ (by omega) ⟨by omega, F3m.tr (MF.of (fun c hc_q => fg c (by rw [r0]; omega))), by rw [zsum_1 hi_, hv, ← ha_], by omega, xg_, fun hl2 => eg hl2⟩
          · have hlt2 : k < a + 0 := by
              have := zcmp_l (x := k) (y := a + 0)
              omega
            have hrw : isRw G 0 (m3_q 86) := rwE (p := 0) (by have := tA 0; omega) hE3
            have hka : lw64 (k - a) = k - a := lw_s (by omega) (by omega)
            rw [hka]
            have hwy : tWays (G 0) (G 1) (G 3) (fP G 0) (m3_q 86) 0 = tWays (G 0) (G 1) (G 3) (fP G 0) (erow (G 0) (G 2) i) 0 := tWays_congr hE3
            have hit : tT (G 0) (G 2) (G 1) (G 3) (fP G 0) u i ≤ tWays (G 0) (G 1) (G 3) (fP G 0) (erow (G 0) (G 2) i) 0 := by
              have := (tWays_in (nq := G 0) (f := fP G 0) (r := erow (G 0) (G 2) i) (g := 0) (ng := G 1) h34 ⟨by omega, by omega, by omega⟩).1
              unfold tT
              rcases Classical.em (tHigh (G 0) (G 1) (G 3) (fP G 0) (erow (G 0) (G 2) i) = u) with q | q
              · rw [zite_t q]; exact Int.le_refl _
              · rw [zite_f q]; omega
            refine ⟨hm3.s.o, _, c_Mo_laysBest hm3 hto hrw ⟨by omega, by rw [hwy]; omega⟩, ?_⟩
            rintro mb ⟨tb, fb⟩
            have hmb : MG kd mb G := hm3.mf (MF.of (fun c hc_q => fb c (by omega) (by omega)))
            have hEb : ∀ j, 0 ≤ j → j < nQ G 0 → mb (rM 0) j = erow (nQ G 0) (nA G 0) i j := fun j j0 j1 => by rw [fb (rM 0) (by decide) (by decide)]; exact hE3 j j0 j1
            have hr0 : isRw G 0 (mb (rM 0)) := rwE (p := 0) (by have := tA 0; omega) hEb
            have hr1 : isRw G 1 (mb (rM 1)) := fun q q0 q1_q => (tb q q0 q1_q).1
            have hrp : isRw G p (mb (rM p)) := by
              rcases hp with e | e <;> subst e
              · exact hr0
              · exact hr1
            refine ⟨hm3.s.o, _, c_Mo_toldOf hmb hp (rd9 h.ok hrp), ?_⟩
            rintro _ _ ⟨rfl, rfl⟩
            refine ⟨zcs_t ht (zcs_t hp (zcs_t hk0 ⟨u, hu, Or.inl ⟨i, ⟨hi_, hlt⟩, by rw [← ha_]; omega, by rw [← ha_, hv]; exact hlt2, fun e => ?_, fun e => ⟨mb 87, ?_, ?_⟩⟩⟩)), F3m.tr (MF.of (fun c hc_q => fb c (by omega) (by omega)))⟩
            · rw [e]
              exact zhn_congr _ (fun q q0 q1_q => hEb q q0 (by omega))
            · rw [← ha_]
              exact isTR_congr hE3 tb
            · rw [hp.resolve_left e]
              rfl
        · skip
          refine ⟨hm_q.s.o, _, c_Mo_ways (lx := -1) (ly := -1) hm3 hto (rwE (p := 0) (by have := tA 0; omega) hE3) (Or.inl rfl), ?_⟩
          rintro x5_q m6_q ⟨x6, f6_q⟩
          have F6 : MF m m6_q := F3m.tr (MF.of (fun c hc_q => f6_q c (by omega)))
          have hm6 : MG kd m6_q G := h.mf F6
          have hE6 : ∀ j, 0 ≤ j → j < nQ G 0 → m6_q (rM 0) j = erow (nQ G 0) (nA G 0) i j := fun j j0 j1 => by rw [f6_q (rM 0) (by decide)]; exact hE3 j j0 j1
          have hv : tT (G 0) (G 2) (G 1) (G 3) (fP G 0) u i = x5_q := by rw [x6, wyc_0]; rw [show tWays (G 0) (G 1) (G 3) (fP G 0) (m3_q 86) 0 = tWays (G 0) (G 1) (G 3) (fP G 0) (erow (G 0) (G 2) i) 0 from tWays_congr hE3]; exact zite_t (show hiH G i = u by rw [← hx]; exact Classical.not_not.1 qc_2)
          have htb := htt i
          have hcm : lw64 (a + x5_q) = a + x5_q := lw_s (by omega) (by omega)
          refine T_Mo_best_61 ?_
          rw [hcm]
          refine ⟨fun qc_3 => ?_, fun qc_3 => ?_⟩
          · have hle : a + x5_q ≤ k := by
              have := zcmp_l (x := k) (y := a + x5_q)
              omega
            refine ⟨hm6.s.o, _, c_Mo_goesOn (c := i) hm6 (Or.inl rfl) (by have := tA 0; omega) hE6 ⟨hi_, hlt⟩, ?_⟩
            rintro xg mg ⟨xg_, eg, fg⟩
            exact qKL0 mg _ _ (by omega) ⟨by omega, F6.tr (MF.of (fun c hc_q => fg c (by rw [r0]; omega))), by rw [zsum_1 hi_, hv, ← ha_], by omega, xg_, fun hl2 => eg hl2⟩
          · have hlt2 : k < a + x5_q := by
              have := zcmp_l (x := k) (y := a + x5_q)
              omega
            have hrw : isRw G 0 (m6_q 86) := rwE (p := 0) (by have := tA 0; omega) hE6
            have hka : lw64 (k - a) = k - a := lw_s (by omega) (by omega)
            rw [hka]
            have hwy : tWays (G 0) (G 1) (G 3) (fP G 0) (m6_q 86) 0 = tWays (G 0) (G 1) (G 3) (fP G 0) (erow (G 0) (G 2) i) 0 := tWays_congr hE6
            have hit : tT (G 0) (G 2) (G 1) (G 3) (fP G 0) u i ≤ tWays (G 0) (G 1) (G 3) (fP G 0) (erow (G 0) (G 2) i) 0 := by
              have := (tWays_in (nq := G 0) (f := fP G 0) (r := erow (G 0) (G 2) i) (g := 0) (ng := G 1) h34 ⟨by omega, by omega, by omega⟩).1
              unfold tT
              rcases Classical.em (tHigh (G 0) (G 1) (G 3) (fP G 0) (erow (G 0) (G 2) i) = u) with q | q
              · rw [zite_t q]; exact Int.le_refl _
              · rw [zite_f q]; omega
            refine ⟨hm6.s.o, _, c_Mo_laysBest hm6 hto hrw ⟨by omega, by rw [hwy]; omega⟩, ?_⟩
            rintro mb ⟨tb, fb⟩
            have hmb : MG kd mb G := hm6.mf (MF.of (fun c hc_q => fb c (by omega) (by omega)))
            have hEb : ∀ j, 0 ≤ j → j < nQ G 0 → mb (rM 0) j = erow (nQ G 0) (nA G 0) i j := fun j j0 j1 => by rw [fb (rM 0) (by decide) (by decide)]; exact hE6 j j0 j1
            have hr0 : isRw G 0 (mb (rM 0)) := rwE (p := 0) (by have := tA 0; omega) hEb
            have hr1 : isRw G 1 (mb (rM 1)) := fun q q0 q1_q => (tb q q0 q1_q).1
            have hrp : isRw G p (mb (rM p)) := by
              rcases hp with e | e <;> subst e
              · exact hr0
              · exact hr1
            refine ⟨hm6.s.o, _, c_Mo_toldOf hmb hp (rd9 h.ok hrp), ?_⟩
            rintro _ _ ⟨rfl, rfl⟩
            refine ⟨zcs_t ht (zcs_t hp (zcs_t hk0 ⟨u, hu, Or.inl ⟨i, ⟨hi_, hlt⟩, by rw [← ha_]; omega, by rw [← ha_, hv]; exact hlt2, fun e => ?_, fun e => ⟨mb 87, ?_, ?_⟩⟩⟩)), F6.tr (MF.of (fun c hc_q => fb c (by omega) (by omega)))⟩
            · rw [e]
              exact zhn_congr _ (fun q q0 q1_q => hEb q q0 (by omega))
            · rw [← ha_]
              exact isTR_congr hE6 tb
            · rw [hp.resolve_left e]
              rfl)
    exact qL0 0 mm0 0 1 (by have := rows1 h.ok hto 0; omega) ⟨by decide, hF0, rfl, hk0, (zbT (by have := rows1 h.ok hto 0; omega)), fun _ => hE0⟩
  refine S_Mo_best ?_
  try simp only [r0, r1_q, r2, r3, r4, r5_q, r7, r12, r13, r15, r17, r18, r19, r20, r21, r22]
  refine ⟨h.s.o, _, c_Mo_hasGame h, ?_⟩
  rintro _ _ ⟨rfl, rfl⟩
  try simp only [r0, r1_q, r2, r3, r4, r5_q, r7, r12, r13, r15, r17, r18, r19, r20, r21, r22]
  refine ⟨fun qc_1 => ?_, fun qc_1 => ?_⟩
  · replace qc_1 := zb_eq0.1 qc_1
    exact ⟨zcs_f qc_1 rfl, MF.rf⟩
  · replace qc_1 := zb_ne0.1 qc_1
    have hto : 0 < G 0 := qc_1
    refine ⟨fun qc_2 => ?_, fun qc_2 => ?_⟩
    · skip
      exact ⟨zcs_t qc_1 (by rcases Classical.em (p = 0 ∨ p = 1) with e | e; exact zcs_t e (zcs_f (by omega) rfl); exact zcs_f e rfl), MF.rf⟩
    · skip
      refine ⟨_, c_Mo_isPlayer, ?_⟩
      rintro _ _ ⟨rfl, rfl⟩
      try simp only [r0, r1_q, r2, r3, r4, r5_q, r7, r12, r13, r15, r17, r18, r19, r20, r21, r22]
      refine ⟨fun qc_3 => ?_, fun qc_3 => ?_⟩
      · replace qc_3 := zb_ne0.1 qc_3
        refine ⟨h.s.o, _, c_Mo_mostWorth h hto, ?_⟩
        rintro x8 m9_q ⟨i9_q, f9_q⟩
        have F9 : MF m m9_q := MF.of (fun c hc_q => f9_q c (by omega) (by omega))
        have hm9 : MG kd m9_q G := h.mf F9
        refine ⟨h.s.o, _, c_Mo_laysFirst hm9, ?_⟩
        rintro m12_q ⟨f12_q, z12⟩
        exact key qc_1 qc_3 (by omega) _ i9_q m12_q (F9.tr (MF.of (fun c hc_q => f12_q c (by rw [rM0]; omega)))) (fun j j0 j1 => by rw [erow_0 j (by have := h.ok.tA hto 0; omega)]; exact z12 j j0 (by have := h.ok.tQ hto 0; omega))
      · replace qc_3 := zb_eq0.1 (Classical.not_not.1 qc_3)
        exact ⟨zcs_t qc_1 (zcs_f qc_3 rfl), MF.rf⟩
theorem zhn_div {r : Int → Int} : ∀ (n k : Nat), (∀ q : Int, 0 ≤ q → q < ((n + k : Nat) : Int) → 0 ≤ r q ∧ r q ≤ 9) → zhn (n + k) r / 10 ^ k = zhn n r := by
  intro n k
  induction k with
  | zero => intro _; simp
  | succ k ih =>
    intro h
    have hd_q := h ((n + k : Nat) : Int) (by omega) (by omega)
    rw [show n + (k + 1) = (n + k) + 1 by omega, zhn, Int.pow_succ', ← Int.ediv_ediv_of_nonneg (by decide)]
    rw [show (zhn (n + k) r * 10 + r ((n + k : Nat) : Int)) / 10 = zhn (n + k) r by omega]
    exact ih (fun q q0 q1_q => h q q0 (by omega))
theorem drow_zhn {G : GR} {p q : Int} {r : Int → Int} (h : ∀ q, 0 ≤ q → q < nQ G p → 0 ≤ r q ∧ r q ≤ 9) (h0 : 0 ≤ q) (h1 : q < nQ G p) : drow G p (zhn (nQ G p).toNat r) q = r q := by
  unfold drow dg10
  have e : (nQ G p).toNat = (q.toNat + 1) + (nQ G p - 1 - q).toNat := by omega
  have hq := h q h0 h1
  rw [show zhn (nQ G p).toNat r / 10 ^ (nQ G p - 1 - q).toNat = zhn (q.toNat + 1) r from by
    have := zhn_div (r := r) (q.toNat + 1) (nQ G p - 1 - q).toNat (fun k k0_q k1_q => h k k0_q (by omega))
    rw [← e] at this
    exact this, zhn, show ((q.toNat : Nat) : Int) = q by omega]
  omega
theorem isNum_zhn {G : GR} (ho : GOK G) (ht : 0 < G 0) {p : Int} {r : Int → Int} (h : isRw G p r) : isNum G p (zhn (nQ G p).toNat r) := by
  have h9 := rd9 ho h
  have hq := ho.q p
  have hb_q := zhn_in (r := r) (nQ G p).toNat (by omega) (fun q q0 q1_q => h9 q q0 (by omega))
  refine ⟨⟨ht, hb_q.1⟩, ?_, fun q q0 q1_q => by rw [drow_zhn h9 q0 q1_q]; exact (h q q0 q1_q).2⟩
  exact Int.ediv_eq_zero_of_lt hb_q.1 hb_q.2
theorem p10_5 {n : Nat} (h : n ≤ 5) : (10 : Int) ^ n ≤ 100000 := by
  have : (10 : Int) ^ n ≤ 10 ^ 5 := by exact_mod_cast Nat.pow_le_pow_right (by decide) h
  omega
theorem RE.rMo {G : GR} {mm : ZM} {r s : Int → Int} (h : RE G mm 86 87 r s) (h1 : isRw G 0 r) (h2 : isRw G 1 s) {p : Int} (hp : p = 0 ∨ p = 1) : isRw G p (mm (rM p)) := by
  have := h.rw h1 h2
  rcases hp with e | e <;> subst e
  · exact this.1
  · exact this.2
theorem c_Mo_climb {d : Nat} {kd : ZK} {m : ZM} {G : GR} {y z w : Int} (h : MG kd m G) (hz1 : zin32 y) (hz2 : zin32 z) : CtI (d + 6) M_Mo_climb [(2, 78), (0, y), (0, z), (0, w)] kd m (fun x m1_q => pClimb G y z w x ∧ MF m m1_q) := by
  have r0 := rM0
  have r1_q := rM1
  have hok := h.ok.1
  have qL0 : isNum G 0 y → isNum G 1 z → 0 ≤ w → w ≤ 3 → ∀ (i : Int), i ≤ 1000 → ∀ (mm : ZM) (c : Int × Int × Int × Int), (0 ≤ i ∧ MF m mm ∧ ∃ r1_q s1_q, clI G (drow G 0 y, drow G 1 z, wBoth G (drow G 0 y) (drow G 1 z), 0, 0, 1) i.toNat r1_q s1_q c ∧ RE G mm 86 87 r1_q s1_q) → Ev (d + 6) M_Mo_climb 0 0 47 [(2, 78), zJ, zJ, (0, w), (0, c.1), (0, c.2.1), (0, c.2.2.2), (0, c.2.2.1), zJ, zJ, zJ] [] kd mm (zqI kd (fun x m1_q => pClimb G y z w x ∧ MF m m1_q)) := by
    intro hy hz hw0 hw3
    have hto : 0 < G 0 := hy.1.1
    have hga : 1 ≤ G 2 ∧ 1 ≤ G 3 := by have := h.ok.2.1 hto; omega
    have Z := zfor2 1000 (fun (i : Int) (mm : ZM) (c : Int × Int × Int × Int) => Ev (d + 6) M_Mo_climb 0 0 47 [(2, 78), zJ, zJ, (0, w), (0, c.1), (0, c.2.1), (0, c.2.2.2), (0, c.2.2.1), zJ, zJ, zJ] [] kd mm (zqI kd (fun x m1_q => pClimb G y z w x ∧ MF m m1_q))) (fun (i : Int) (mm : ZM) (c : Int × Int × Int × Int) => 0 ≤ i ∧ MF m mm ∧ ∃ r1_q s1_q, clI G (drow G 0 y, drow G 1 z, wBoth G (drow G 0 y) (drow G 1 z), 0, 0, 1) i.toNat r1_q s1_q c ∧ RE G mm 86 87 r1_q s1_q) (by
      intro i mm c hb_q hI KL
      obtain ⟨wo, t, j, p⟩ := c
      obtain ⟨hi_, hF, ra, sa, hC, hE⟩ := hI
      have hm_q : MG kd mm G := h.mf hF
      have hn := clI_n hC h.ok
      have hC0 := hC.2.1
      have hC1 := hC.2.2.1
      have hC2 := hC.2.2.2.1
      have hC3 := hC.2.2.2.2.1
      have hp := hC.2.2.2.2.2.1
      try simp only [] at hC1 hC2 hC3 hp ⊢
      have hww := wBoth_in h.ok ra sa
      have hrw := hE.rw hC0.1 hC0.2
      have hri := rM_in p
      have hne := rM_o hp
      have hpo : 1 - p = 0 ∨ 1 - p = 1 := by omega
      have hrp := hE.rMo hC0.1 hC0.2 hp
      have hro := hE.rMo hC0.1 hC0.2 hpo
      refine T_Mo_climb_47 ⟨fun qc_1 => ?_, fun qc_1 => ?_⟩
      · have hcl : isCl G (drow G 0 y) (drow G 1 z) ra sa t := ⟨i.toNat, _, hC, by try simp only []; omega, rfl⟩
        have fin : ∀ x, ((w = 0 → x = wBoth G ra sa) ∧ (w = 1 → x = zhn (G 0).toNat ra) ∧ (w = 2 → x = zhn (G 1).toNat sa) ∧ (w = 3 → x = t)) → pClimb G y z w x ∧ MF m mm := fun x hx => ⟨zcs_t ⟨hy, hz⟩ (zcs_f (by omega) (zcs_t hw3 ⟨ra, sa, t, hcl, hx⟩)), hF⟩
        refine ⟨fun qc_2 => ⟨fun qc_3 => ⟨fun qc_4 => ?_, fun qc_4 => ?_⟩, fun qc_3 => ?_⟩, fun qc_2 => ?_⟩
        · exact fin _ ⟨fun e => absurd e (by omega), fun e => absurd e (by omega), fun e => absurd e (by omega), fun _ => rfl⟩
        · refine ⟨hm_q.s.o, _, c_Mo_toldOf hm_q (Or.inr rfl) (rd9 h.ok hrw.2), ?_⟩
          rintro _ _ ⟨rfl, rfl⟩
          exact fin _ ⟨fun e => absurd e (by omega), fun e => absurd e (by omega), fun _ => zhn_congr _ (fun q q0 q1_q => hE.2 q q0 (by have : nQ G 1 = G 1 := rfl; omega)), fun e => absurd e (by omega)⟩
        · refine ⟨hm_q.s.o, _, c_Mo_toldOf hm_q (Or.inl rfl) (rd9 h.ok hrw.1), ?_⟩
          rintro _ _ ⟨rfl, rfl⟩
          exact fin _ ⟨fun e => absurd e (by omega), fun _ => zhn_congr _ (fun q q0 q1_q => hE.1 q q0 (by have : nQ G 0 = G 0 := rfl; omega)), fun e => absurd e (by omega), fun e => absurd e (by omega)⟩
        · exact fin _ ⟨fun _ => hC1, fun e => absurd e (by omega), fun e => absurd e (by omega), fun e => absurd e (by omega)⟩
      · have hto2 := rd9 h.ok hrp
        have had := zhn_in (r := mm (rM p)) (nQ G p).toNat (by have := h.ok.q p; omega) (fun q q0 q1_q => hto2 q q0 (by omega))
        have hnum : isNum G p (zhn (nQ G p).toNat (mm (rM p))) := isNum_zhn h.ok hto hrp
        have h32 : zin32 (zhn (nQ G p).toNat (mm (rM p))) := by
          have := p10_5 (show (nQ G p).toNat ≤ 5 by have := h.ok.q p; omega)
          unfold zin32
          omega
        refine ⟨hm_q.s.o, _, c_Mo_toldOf hm_q hp hto2, ?_⟩
        rintro _ _ ⟨rfl, rfl⟩
        refine ⟨hm_q.s.o, _, c_Mo_replies hm_q hp hto hro, ?_⟩
        rintro m12_q ⟨f12_q, b12⟩
        have F12 : MF m m12_q := hF.tr (MF.of (fun c hc_q => f12_q c (by omega) (by omega)))
        have hm12 : MG kd m12_q G := h.mf F12
        have eo : m12_q (rM (1 - p)) = mm (rM (1 - p)) := f12_q _ (by have := rM_in (1 - p); omega) (fun e => hne e.symm)
        have hga2 : 1 ≤ nA G p := by have := h.ok.tA hto p; omega
        have hnew : isRw G p (m12_q (rM p)) := fun q q0 q1_q => by rw [b12 q q0 q1_q]; exact bA_rw hga2 q q0 q1_q
        have hold : isRw G (1 - p) (m12_q (rM (1 - p))) := by rw [eo]; exact hro
        have hb01 : isRw G 0 (m12_q 86) ∧ isRw G 1 (m12_q 87) := by
          rcases hp with e | e <;> subst e
          · exact ⟨hnew, hold⟩
          · exact ⟨hold, hnew⟩
        have hwb : wBoth G (m12_q 86) (m12_q 87) = wBest G p (if p = 0 then sa else ra) := by
          rcases hp with e | e <;> subst e
          · rw [if_pos rfl, wBest_0]
            exact wBoth_congr (fun q q0 q1_q => by rw [show m12_q 86 q = m12_q (rM 0) q from rfl, b12 q q0 q1_q]; exact bA_congr (p := 0) (fun k k0_q k1_q => hE.2 k k0_q k1_q) q) (fun q q0 q1_q => by rw [show m12_q 87 = mm 87 from eo]; exact hE.2 q q0 q1_q)
          · rw [if_neg (by decide), wBest_1]
            exact wBoth_congr (fun q q0 q1_q => by rw [show m12_q 86 = mm 86 from eo]; exact hE.1 q q0 q1_q) (fun q q0 q1_q => by rw [show m12_q 87 q = m12_q (rM 1) q from rfl, b12 q q0 q1_q]; exact bA_congr (p := 1) (fun k k0_q k1_q => hE.1 k k0_q k1_q) q)
        refine ⟨hm12.s.o, _, c_Mo_worthNow hm12 hb01.1 hb01.2, ?_⟩
        rintro _ _ ⟨rfl, rfl⟩
        rw [hwb, iw_s (x := 1 - p) (by omega) (by omega), iw_s (x := j + 1) (by omega) (by omega), iw_s (x := t + 1) (by omega) (by omega)]
        refine ⟨fun qc_2 => ?_, fun qc_2 => ?_⟩
        · refine ⟨hm12.s.o, _, c_Mo_lays hm12 hp h32, ?_⟩
          rintro x17 m18 ⟨x18, f18, e18_q⟩
          refine KL m18 (wo, t, j + 1, 1 - p) (by omega) ⟨by omega, F12.tr (MF.of (fun c hc_q => f18 c (by omega))), ra, sa, ?_, ?_⟩
          · rw [show (i + 1).toNat = i.toNat + 1 by omega]; exact clI_no hC (by omega) qc_2
          · have hback : ∀ q, 0 ≤ q → q < nQ G p → m18 (rM p) q = mm (rM p) q := fun q q0 q1_q => by rw [e18_q hnum q q0 q1_q]; exact drow_zhn hto2 q0 q1_q
            have hoth : m18 (rM (1 - p)) = mm (rM (1 - p)) := by rw [f18 _ (fun e => hne e.symm), eo]
            rcases hp with e | e <;> subst e
            · exact ⟨fun q q0 q1_q => by rw [show m18 86 q = m18 (rM 0) q from rfl, hback q q0 q1_q]; exact hE.1 q q0 q1_q, fun q q0 q1_q => by rw [show m18 87 = mm 87 from hoth]; exact hE.2 q q0 q1_q⟩
            · exact ⟨fun q q0 q1_q => by rw [show m18 86 = mm 86 from hoth]; exact hE.1 q q0 q1_q, fun q q0 q1_q => by rw [show m18 87 q = m18 (rM 1) q from rfl, hback q q0 q1_q]; exact hE.2 q q0 q1_q⟩
        · rcases hp with e | e <;> subst e
          · rw [if_pos rfl] at qc_2 ⊢
            refine KL m12_q (wBest G 0 sa, t + 1, 0, 1) (by omega) ⟨by omega, F12, bA G 0 sa, sa, ?_, ?_⟩
            · rw [show (i + 1).toNat = i.toNat + 1 by omega]; exact clI_y0 hC (by omega) hga.1 (by omega)
            · exact ⟨fun q q0 q1_q => by rw [show m12_q 86 q = m12_q (rM 0) q from rfl, b12 q q0 q1_q]; exact bA_congr (p := 0) (fun k k0_q k1_q => hE.2 k k0_q k1_q) q, fun q q0 q1_q => by rw [show m12_q 87 = mm 87 from eo]; exact hE.2 q q0 q1_q⟩
          · rw [if_neg (show ¬ (1 : Int) = 0 by decide)] at qc_2 ⊢
            refine KL m12_q (wBest G 1 ra, t + 1, 0, 0) (by omega) ⟨by omega, F12, ra, bA G 1 ra, ?_, ?_⟩
            · rw [show (i + 1).toNat = i.toNat + 1 by omega]; exact clI_y1 hC (by omega) hga.2 (by omega)
            · exact ⟨fun q q0 q1_q => by rw [show m12_q 86 = mm 86 from eo]; exact hE.1 q q0 q1_q, fun q q0 q1_q => by rw [show m12_q 87 q = m12_q (rM 1) q from rfl, b12 q q0 q1_q]; exact bA_congr (p := 1) (fun k k0_q k1_q => hE.1 k k0_q k1_q) q⟩)
    exact fun i hi_q mm c hI => Z i mm c hi_q hI
  refine S_Mo_climb ?_
  refine ⟨h.s.o, _, c_Mo_lays h (Or.inl rfl) hz1, ?_⟩
  rintro x2_q m3_q ⟨i3_q, f3_q, e3_q⟩
  subst i3_q
  have F3 : MF m m3_q := MF.of (fun c hc_q => f3_q c (by rw [rM0]; omega))
  have hm3 : MG kd m3_q G := h.mf F3
  refine ⟨fun qc_1 => ?_, fun qc_1 => ?_⟩
  · replace qc_1 := zb_eq0.1 qc_1
    exact ⟨zcs_f (fun q => qc_1 q.1) rfl, F3⟩
  · replace qc_1 := zb_ne0.1 qc_1
    refine ⟨h.s.o, _, c_Mo_lays hm3 (Or.inr rfl) hz2, ?_⟩
    rintro x5_q m6_q ⟨i6_q, f6_q, e6_q⟩
    subst i6_q
    have F6 : MF m m6_q := F3.tr (MF.of (fun c hc_q => f6_q c (by rw [rM1]; omega)))
    have hm6 : MG kd m6_q G := h.mf F6
    refine ⟨fun qc_2 => ?_, fun qc_2 => ?_⟩
    · replace qc_2 := zb_eq0.1 qc_2
      exact ⟨zcs_f (fun q => qc_2 q.2) rfl, F6⟩
    · replace qc_2 := zb_ne0.1 qc_2
      have hto : 0 < G 0 := qc_1.1.1
      have g6 : ∀ q, 0 ≤ q → q < nQ G 0 → m6_q 86 q = drow G 0 y q := fun q q1_q q2_q => by rw [f6_q 86 (by decide)]; exact e3_q qc_1 q q1_q q2_q
      have k6_q : ∀ q, 0 ≤ q → q < nQ G 1 → m6_q 87 q = drow G 1 z q := fun q q1_q q2_q => e6_q qc_2 q q1_q q2_q
      have hr1 : isRw G 0 (m6_q 86) := qc_1.rw g6
      have hr2 : isRw G 1 (m6_q 87) := qc_2.rw k6_q
      refine ⟨_, c_Mo_in, ?_⟩
      rintro _ _ ⟨rfl, rfl⟩
      refine ⟨fun qc_3 => ?_, fun qc_3 => ?_⟩
      · replace qc_3 := zb_ne0.1 qc_3
        refine ⟨h.s.o, _, c_Mo_worthNow hm6 hr1 hr2, ?_⟩
        rintro _ _ ⟨rfl, rfl⟩
        have hwc : wBoth G (m6_q 86) (m6_q 87) = wBoth G (drow G 0 y) (drow G 1 z) := wBoth_congr g6 k6_q
        rw [hwc]
        exact qL0 qc_1 qc_2 qc_3.1 qc_3.2 0 (by decide) m6_q (wBoth G (drow G 0 y) (drow G 1 z), 0, 0, 1) ⟨by decide, F6, drow G 0 y, drow G 1 z, clI_0 (qc_1.rw (fun q q1_q q2_q => rfl)) (qc_2.rw (fun q q1_q q2_q => rfl)) h.ok, ⟨g6, k6_q⟩⟩
      · replace qc_3 := zb_eq0.1 (Classical.not_not.1 qc_3)
        exact ⟨zcs_t ⟨qc_1, qc_2⟩ (by rcases (show w < 0 ∨ (0 ≤ w ∧ ¬ w ≤ 3) by omega) with e | e; exact zcs_t e rfl; exact zcs_f (by omega) (zcs_f e.2 rfl)), F6⟩
